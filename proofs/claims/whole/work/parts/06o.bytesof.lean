/-! PURE ROWS 15: the bytes that a CHUNK tells -/
theorem give_c (K : Nat) (hK : 32769 < K) {L G B : List Nat} {c gc bb : Nat → Int32} {p i k : Nat} (hc : cL c L) (hb : by_ L) (hL : L.length ≤ 20000) (hp : p + 8 ≤ L.length) (hG : G.length ≤ 20000) (hgc : cL gc G) (hB : cL bb B) (hBl : B.length ≤ 20000) (hik : i + k ≤ B.length) :
    (20000 < G.length + k → f_X5_give K 0 (-1) (nI p) (nI (p + 4)) (nI G.length) 20000 gc (nI L.length) 20000 c (nI B.length) 20000 bb (nI i) (nI k) = some (17, nI p, nI G.length, gc)) ∧
    (G.length + k ≤ 20000 → nI (lev L (p + 4) 4) = msk (crcS (-1) (seg B i k) ^^^ (-1)) → ∃ gc', f_X5_give K 0 (-1) (nI p) (nI (p + 4)) (nI G.length) 20000 gc (nI L.length) 20000 c (nI B.length) 20000 bb (nI i) (nI k) = some (0, -1, nI (G.length + k), gc') ∧ cL gc' (G ++ seg B i k)) ∧
    (G.length + k ≤ 20000 → ¬ nI (lev L (p + 4) 4) = msk (crcS (-1) (seg B i k) ^^^ (-1)) → f_X5_give K 0 (-1) (nI p) (nI (p + 4)) (nI G.length) 20000 gc (nI L.length) 20000 c (nI B.length) 20000 bb (nI i) (nI k) = some (18, nI p, nI G.length, gc)) := by
  unfold f_X5_give f_X5_fail
  refine ⟨fun h => ?_, fun h h2 => ?_, fun h h2 => ?_⟩
  · rw [room_0 K hG (by decide) (by
      rintro ⟨j, h1, h2⟩
      have := (nI_eq (by omega) (by omega)).mp h2
      omega), sob, i00, sob]
  · rw [room_1' K hG (by decide) (by omega), sob, i10, show (4 : Int32) = nI 4 from rfl, lev_ok K (by omega) hc hb hL (by decide) (by decide) (by omega), sob, mcrc_ok K (by omega) hB hBl (by decide) hik, sob, lN_i, if_pos h2]
    obtain ⟨gc', e, g⟩ := putAll_ok K (N := 20000) (N2 := 20000) (i := i) (k := k) hgc hB hBl hik (by omega) (by decide) (by decide)
    rw [e, sob]
    exact ⟨gc', rfl, g⟩
  · rw [room_1' K hG (by decide) (by omega), sob, i10, show (4 : Int32) = nI 4 from rfl, lev_ok K (by omega) hc hb hL (by decide) (by decide) (by omega), sob, mcrc_ok K (by omega) hB hBl (by decide) hik, sob, lN_i, if_neg h2, sob]
theorem same_c (K : Nat) (a b c d e : Int32) (N : Nat) (gc : Nat → Int32) (n : Int32) (N2 : Nat) (r : Nat → Int32) (i k : Int32) : f_X5_give_same K a b c d e N gc n N2 r i k = f_X5_give K a b c d e N gc n N2 r n N2 r i k := rfl
theorem seg_app (G B : List Nat) : seg (G ++ B) G.length B.length = B := by
  unfold seg
  rw [List.drop_left, List.take_length]
/-- the reference's sum over what it has put -/
theorem ref_243 (K : Nat) (hK : 32769 < K) {L G B : List Nat} {m mm nc be st : Nat → Int32} {p : Nat} {BF BP op li wa p2 p3 p4 : Int32} (hm : mL m L) (hb : by_ L) (hL : L.length ≤ 20000) (hs : smt st) (hp : p + 8 ≤ L.length) (hG : (G ++ B).length ≤ 20000) (hby : by_ (G ++ B)) (hmm : mL mm (G ++ B)) :
    f_X7_bytesOf_b243 K 20000 m 24000 5000 256 st 20000 (nI p) p2 p3 p4 (nI (G.length + B.length)) BF BP op li wa 0 (-1) 0 (-1) mm nc be (nI G.length) = some (nI (G.length + B.length), BF, BP, op, li, wa, (if nI (lev L (p + 4) 4) = msk (crcS (-1) B ^^^ (-1)) then 0 else 18), (if nI (lev L (p + 4) 4) = msk (crcS (-1) B ^^^ (-1)) then -1 else nI p), 0, -1, mm, nc, be) := by
  unfold f_X7_bytesOf_b243 f_X7_masked f_X7_told
  have hl : (G ++ B).length = G.length + B.length := List.length_append
  have e := sumD_ok K (by omega) (N := 24000) (i := G.length) (e := G.length + B.length) hmm hby hs (by omega) (by decide) (by omega) (by omega)
  rw [Nat.add_sub_cancel_left, seg_app] at e
  rw [e, sob, sob, show nI p + 4 = nI (p + 4) from nI_add p 4, four_mm K hm hb hL (by omega), sob]
  change (if msk (crcS (-1) B ^^^ (-1)) = nI (lev L (p + 4) 4) then _ else _) = _
  by_cases h : nI (lev L (p + 4) 4) = msk (crcS (-1) B ^^^ (-1))
  · rw [if_pos h.symm, if_pos h, if_pos h]
  · rw [if_neg (fun y => h y.symm), if_neg h, if_neg h, sob]
theorem ref_204 (K : Nat) {L : List Nat} {m nc be st : Nat → Int32} {i k : Nat} {BF BP op li wa fN fP fI fq p1 p2 p3 x5 : Int32} (hm : mL m L) (hL : L.length ≤ 20000) (hik : i + k ≤ L.length) : ∀ (q j : Nat) (O : List Nat) (c : Nat → Int32), mL c O → j ≤ k → k - j < q → O.length + (k - j) ≤ 20000 → ∃ c', f_X7_bytesOf_b204 K 20000 m 24000 5000 256 st 20000 p1 p2 p3 (nI (i + k)) q (nI O.length) BF BP op li wa fN fP fI fq c nc be x5 (nI (i + j)) = f_X7_bytesOf_b243 K 20000 m 24000 5000 256 st 20000 p1 p2 p3 (nI (i + k)) (nI (O.length + (k - j))) BF BP op li wa fN fP fI fq c' nc be x5 ∧ mL c' (O ++ seg L (i + j) (k - j)) := by
  intro q
  induction q with
  | zero => intro j _ _ _ _ h; omega
  | succ q ih =>
    intro j O c hc hj hq hl
    rw [f_X7_bytesOf_b204]
    rcases Nat.eq_or_lt_of_le hj with e | e
    · subst e
      rw [if_pos (nI_le (Nat.le_refl _) (by omega)), Nat.sub_self, seg_0, List.append_nil]
      exact ⟨c, rfl, hc⟩
    · rw [if_neg (nI_ge (by omega) (by omega)), ck_n (by omega) (by decide), ck_n (by omega) (by decide), nI_clamp (by omega), nI_clamp (by omega), hm (i + j) (by omega), sb_keep, nI_1, nI_1]
      obtain ⟨c', e2, g2⟩ := ih (j + 1) (O ++ [L.getD (i + j) 0]) _ (rL_push hc) e (by omega) (by rw [len1]; omega)
      rw [len1, ← Nat.add_assoc i j 1] at e2
      have e3 : k - j = (k - (j + 1)) + 1 := by omega
      rw [e2, e3, seg_cons (by omega), ← app_as, Nat.add_assoc i j 1, show O.length + 1 + (k - (j + 1)) = O.length + (k - (j + 1) + 1) by omega]
      rw [← Nat.add_assoc i j 1] at g2 ⊢
      exact ⟨c', rfl, g2⟩
/-- the bytes of a BLOCK go behind the others: first up, the last first, then what was before -/
theorem ref_108 (K : Nat) {G H : List Nat} {m nc be st : Nat → Int32} {md BF BP op li wa fN fP fI fq p1 p2 p3 p4 : Int32} (hl : G.length + H.length ≤ 20000) : ∀ (q k : Nat) (c : Nat → Int32), (∀ j, j < k → c j = sb_b (H.getD j 0)) → (∀ j, k ≤ j → j < H.length → c (G.length + j) = sb_b (H.getD j 0)) → k ≤ H.length → k < q → ∃ c', f_X7_bytesOf_b108 K 20000 m 24000 5000 256 st 20000 p1 p2 p3 p4 q md BF BP op li wa fN fP fI fq c nc be (nI G.length) (nI H.length) (nI k - 1) = f_X7_bytesOf_b139 K 20000 m 24000 5000 256 st 20000 p1 p2 p3 p4 K md BF BP op li wa fN fP fI fq c' nc be (nI G.length) (nI H.length) 0 ∧ ∀ j, j < H.length → c' (G.length + j) = sb_b (H.getD j 0) := by
  intro q
  induction q with
  | zero => intro k _ _ _ _ h; omega
  | succ q ih =>
    intro k c h1 h2 hk hq
    rw [f_X7_bytesOf_b108]
    by_cases e : k = 0
    · subst e
      rw [if_pos (show nI 0 - 1 < 0 by decide)]
      exact ⟨c, rfl, fun j hj => h2 j (Nat.zero_le _) hj⟩
    · rw [show nI k - 1 = nI (k - 1) from pk_sub (b := 1) (by omega), if_neg (nI_pos (by omega)), ck_n (by omega) (by decide), nI_add, ck_n (by omega) (by decide), nI_clamp (by omega), nI_clamp (by omega), h1 (k - 1) (by omega), sb_keep, show nI (k - 1) + (-1) = nI (k - 1) - 1 from (Int32.sub_eq_add_neg _ _).symm]
      refine ih (k - 1) _ ?_ ?_ (by omega) (by omega)
      · intro j hj; rw [pk_un (by omega)]; exact h1 j (by omega)
      · intro j hj hj2
        by_cases y : j = k - 1
        · subst y; rw [pk_us]
        · rw [pk_un (by omega)]; exact h2 j (by omega) hj2
theorem ref_139 (K : Nat) {G H : List Nat} {m nc be st : Nat → Int32} {md BF BP op li wa fN fP fI fq p1 p2 p3 p4 : Int32} (hl : G.length + H.length ≤ 20000) (hbe : mL be G) : ∀ (q k : Nat) (c : Nat → Int32), (∀ j, j < k → c j = sb_b (G.getD j 0)) → (∀ j, j < H.length → c (G.length + j) = sb_b (H.getD j 0)) → k ≤ G.length → G.length - k < q → ∃ c', f_X7_bytesOf_b139 K 20000 m 24000 5000 256 st 20000 p1 p2 p3 p4 q md BF BP op li wa fN fP fI fq c nc be (nI G.length) (nI H.length) (nI k) = f_X7_bytesOf_b243 K 20000 m 24000 5000 256 st 20000 p1 p2 p3 p4 (nI (G.length + H.length)) BF BP op li wa fN fP fI fq c' nc be (nI G.length) ∧ mL c' (G ++ H) := by
  intro q
  induction q with
  | zero => intro k _ _ _ _ h; omega
  | succ q ih =>
    intro k c h1 h2 hk hq
    rw [f_X7_bytesOf_b139]
    rcases Nat.eq_or_lt_of_le hk with e | e
    · subst e
      rw [if_pos (nI_le (Nat.le_refl _) (by omega)), nI_add]
      refine ⟨c, rfl, fun j hj => ?_⟩
      rcases Nat.lt_or_ge j G.length with y | y
      · rw [gD_lt y]; exact h1 j y
      · rw [gD_ge y]
        rw [List.length_append] at hj
        have := h2 (j - G.length) (by omega)
        rw [Nat.add_sub_cancel' y] at this; exact this
    · rw [if_neg (nI_ge e (by omega)), ck_n (by omega) (by decide), ck_n (by omega) (by decide), nI_clamp (by omega), hbe k e, sb_keep, nI_1]
      refine ih (k + 1) _ ?_ ?_ e (by omega)
      · intro j hj
        by_cases y : j = k
        · subst y; rw [pk_us]
        · rw [pk_un y]; exact h1 j (by omega)
      · intro j hj; rw [pk_un (by omega)]; exact h2 j hj
theorem ref_13 (K : Nat) {G : List Nat} {m nc st mm : Nat → Int32} {BF BP op li wa fN fP fI fq p1 p2 p3 p4 : Int32} (hG : G.length ≤ 20000) (hmm : mL mm G) : ∀ (q k : Nat) (be : Nat → Int32), (∀ j, j < k → be j = sb_b (G.getD j 0)) → k ≤ G.length → G.length - k < q → ∃ (be' : Nat → Int32), (∃ q', f_X7_bytesOf_b13 K 20000 m 24000 5000 256 st 20000 p1 p2 p3 p4 q (nI G.length) BF BP op li wa fN fP fI fq mm nc be (nI G.length) (nI k) = f_X7_bytesOf_b13 K 20000 m 24000 5000 256 st 20000 p1 p2 p3 p4 (q' + 1) (nI G.length) BF BP op li wa fN fP fI fq mm nc be' (nI G.length) (nI G.length)) ∧ mL be' G := by
  intro q
  induction q with
  | zero => intro k _ _ _ h; omega
  | succ q ih =>
    intro k be h1 hk hq
    rcases Nat.eq_or_lt_of_le hk with e | e
    · subst e; exact ⟨be, ⟨q, rfl⟩, h1⟩
    · rw [f_X7_bytesOf_b13, if_neg (nI_ge e (by omega)), ck_n (by omega) (by decide), ck_n (by omega) (by decide), nI_clamp (by omega), hmm k e, sb_keep, nI_1]
      refine ih (k + 1) _ ?_ e (by omega)
      intro j hj
      by_cases y : j = k
      · subst y; rw [pk_us]
      · rw [pk_un y]; exact h1 j (by omega)
theorem byt_both (K : Nat) (hK : 32769 < K) {L G : List Nat} {p t n x : Nat} {c m gc mm bg el nc be st : Nat → Int32} {bf bp bst ben bnx bln bso bbo ec em BF BP op li wa : Int32} {bsi bba : Int64} (hc : cL c L) (hm : mL m L) (hb : by_ L) (hL : L.length ≤ 20000) (hs : smt st) (hG : G.length ≤ 20000) (hbG : by_ G) (hgc : cL gc G) (hmm : mL mm G) (ht : t ≤ 1) (hn : 4 ≤ n) (hp : p + 4 + n ≤ L.length) (hx : x < 2 ^ 30) :
    ∃ (F : Nat) (G' : List Nat) (x' : Nat) (pl bf' bp' bst' ben' bnx' bln' bso' bbo' ec' em' md' BF' BP' op' li' wa' fi fq : Int32) (bsi' bba' : Int64) (gc' mm' bg' el' nc' be' : Nat → Int32),
      f_X5_openBytes K 0 (-1) (nI p) (nI t) (nI (p + 4)) (nI n) (nI G.length) 20000 gc (nI L.length) 20000 c bf bp bst ben bnx bln bso bbo bsi bba (nI x) 20000 bg ec em 5000 el = some (nI F, pl, nI G'.length, gc', bf', bp', bst', ben', bnx', bln', bso', bbo', bsi', bba', nI x', bg', ec', em', el') ∧
      f_X7_bytesOf K (nI G.length) BF BP op li wa 0 (-1) 0 (-1) 20000 m 24000 mm 5000 nc 256 st 20000 be (nI p) (nI t) (nI (p + 4 + 4)) (nI (p + 4 + n)) = some (md', BF', BP', op', li', wa', nI F, pl, fi, fq, mm', nc', be') ∧
      F ≤ 18 ∧ G'.length ≤ 20000 ∧ x' < 2 ^ 30 ∧ (F = 16 → fi = bf' ∧ fq = bp') ∧ (¬ F = 16 → fi = 0 ∧ fq = -1) ∧ (F = 0 → pl = -1 ∧ by_ G' ∧ cL gc' G' ∧ mL mm' G' ∧ md' = nI G'.length) := by
  unfold f_X5_openBytes f_X7_bytesOf
  rw [show nI (p + 4) + 4 = nI (p + 4 + 4) from nI_add _ 4, show nI n - 4 = nI (n - 4) from pk_sub (b := 4) hn]
  by_cases h0 : t = 0
  · rw [if_neg (show ¬ nI t = (1 : Int32) from nI_ne (b := 1) (by omega) (by decide) (by omega)), if_pos (show nI t = (0 : Int32) by rw [h0]; rfl)]
    obtain ⟨be', ⟨q', e0⟩, hbe⟩ := ref_13 K (m := m) (nc := nc) (st := st) (BF := BF) (BP := BP) (op := op) (li := li) (wa := wa) (fN := 0) (fP := -1) (fI := 0) (fq := -1) (p1 := nI p) (p2 := nI t) (p3 := nI (p + 4 + 4)) (p4 := nI (p + 4 + n)) hG hmm K 0 be (fun j hj => absurd hj (Nat.not_lt_zero j)) (Nat.zero_le _) (by omega)
    rw [show nI 0 = (0 : Int32) from rfl] at e0
    rw [e0, f_X7_bytesOf_b13, if_pos (nI_le (Nat.le_refl _) (by omega))]
    obtain ⟨f, pl', st', en', nx', ln', so', bo', si', ba', H, k, mk, wa', gc', mc', el', nc', e1, e2, hf6, hH, hk, hbH, hgc', hmc, hrows⟩ := open_both K (by omega) (N := 20000) (fr := p + 4 + 4) (n := n - 4) (x := x) (gc := bg) (el := el) (mc := mm) (nc := nc) (fa := bf) (pl := bp) (st := bst) (en := ben) (nx := bnx) (ln := bln) (so := bso) (bo := bbo) (ec := ec) (em := em) (bf := BF) (bp := BP) (op := op) (li := li) (wa := wa) (si := bsi) (ba := bba) hc hm hb hL hL (by decide) (by omega) hx
    rw [show p + 4 + 4 + (n - 4) = p + 4 + n by omega] at e2
    rw [e1, sob, e2, sob]; dsimp only
    unfold f_X5_fail f_X7_told
    by_cases hf : f = 0
    · subst hf
      obtain ⟨q1, q2, q3⟩ := give_c K hK (p := p) (i := 0) (k := H.length) hc hb hL (by omega) hG hgc hgc' hH (by omega)
      rw [show nI 0 = (0 : Int32) from rfl] at q1 q2 q3 ⊢
      rw [seg_all] at q2 q3
      rw [if_pos rfl, if_pos (show (0 : Int32) ≤ 0 by decide), nI_add]
      by_cases hr : G.length + H.length ≤ 20000
      · rw [if_pos (show nI (G.length + H.length) ≤ (20000 : Int32) from nI_le (b := 20000) hr (by decide))]
        obtain ⟨c1, e3, g3⟩ := ref_108 K (m := m) (nc := nc') (be := be') (st := st) (md := nI H.length) (BF := 0) (BP := pl') (op := nI k) (li := mk) (wa := wa') (fN := 0) (fP := -1) (fI := 0) (fq := -1) (p1 := nI p) (p2 := nI t) (p3 := nI (p + 4 + 4)) (p4 := nI (p + 4 + n)) hr K H.length mc' (fun j hj => hmc j hj) (fun j h1 h2 => absurd h2 (by omega)) (Nat.le_refl _) (by omega)
        obtain ⟨c2, e4, g4⟩ := ref_139 K (m := m) (nc := nc') (st := st) (md := nI H.length) (BF := 0) (BP := pl') (op := nI k) (li := mk) (wa := wa') (fN := 0) (fP := -1) (fI := 0) (fq := -1) (p1 := nI p) (p2 := nI t) (p3 := nI (p + 4 + 4)) (p4 := nI (p + 4 + n)) hr hbe K 0 c1 (fun j hj => absurd hj (Nat.not_lt_zero j)) g3 (Nat.zero_le _) (by omega)
        rw [show nI 0 = (0 : Int32) from rfl] at e4
        rw [e3, e4, ref_243 K hK hm hb hL hs (by omega) (by rw [List.length_append]; exact hr) (by_app hbG hbH) g4]
        by_cases hq : nI (lev L (p + 4) 4) = msk (crcS (-1) H ^^^ (-1))
        · obtain ⟨gc2, e5, g5⟩ := q2 hr hq
          rw [e5, sob, if_pos hq, if_pos hq]
          refine ⟨0, G ++ H, H.length, -1, _, _, _, _, _, _, _, _, _, _, _, _, _, _, _, _, _, _, _, _, gc2, c2, _, _, _, _, by rw [List.length_append]; rfl, rfl, by decide, by rw [List.length_append]; exact hr, by omega, fun y => absurd y (by decide), fun _ => ⟨rfl, rfl⟩, fun _ => ⟨rfl, by_app hbG hbH, g5, g4, by rw [List.length_append]⟩⟩
        · rw [q3 hr hq, sob, if_neg hq, if_neg hq]
          exact ⟨18, G, H.length, nI p, _, _, _, _, _, _, _, _, _, _, _, _, _, _, _, _, _, _, _, _, gc, c2, _, _, _, _, rfl, rfl, by decide, hG, by omega, fun y => absurd y (by decide), fun _ => ⟨rfl, rfl⟩, fun y => absurd y (by decide)⟩
      · rw [q1 (by omega), sob, if_neg (show ¬ nI (G.length + H.length) ≤ (20000 : Int32) from nI_ge (a := 20000) (by omega) (by omega)), sob]
        exact ⟨17, G, H.length, nI p, _, _, _, _, _, _, _, _, _, _, _, _, _, _, _, _, _, _, _, _, gc, mc', _, _, _, _, rfl, rfl, by decide, hG, by omega, fun y => absurd y (by decide), fun _ => ⟨rfl, rfl⟩, fun y => absurd y (by decide)⟩
    · rw [if_neg (nI_ne0 (by omega) (by omega)), if_neg (show ¬ nI f ≤ (0 : Int32) from nI_ge (a := 0) (by omega) (by omega)), sob, sob]
      exact ⟨16, G, H.length, nI p, _, _, _, _, _, _, _, _, _, _, _, _, _, _, _, _, _, _, _, _, gc, mc', _, _, _, _, rfl, rfl, by decide, hG, by omega, fun _ => ⟨rfl, rfl⟩, fun y => absurd rfl y, fun y => absurd y (by decide)⟩
  · rw [if_pos (show nI t = (1 : Int32) by rw [show t = 1 by omega]; rfl), if_neg (show ¬ nI t = (0 : Int32) from nI_ne (b := 0) (by omega) (by decide) h0), same_c, nI_add, pk_sub (show p + 4 + 4 ≤ G.length + (p + 4 + n) by omega), show G.length + (p + 4 + n) - (p + 4 + 4) = G.length + (n - 4) by omega]
    obtain ⟨q1, q2, q3⟩ := give_c K hK (p := p) (i := p + 4 + 4) (k := n - 4) hc hb hL (by omega) hG hgc hc hL (by omega)
    have hsl : (seg L (p + 4 + 4) (n - 4)).length = n - 4 := seg_len (by omega)
    by_cases hr : G.length + (n - 4) ≤ 20000
    · rw [if_pos (show nI (G.length + (n - 4)) ≤ (20000 : Int32) from nI_le (b := 20000) hr (by decide))]
      obtain ⟨c2, e4, g4⟩ := ref_204 K (m := m) (nc := nc) (be := be) (st := st) (i := p + 4 + 4) (k := n - 4) (BF := BF) (BP := BP) (op := op) (li := li) (wa := wa) (fN := 0) (fP := -1) (fI := 0) (fq := -1) (p1 := nI p) (p2 := nI t) (p3 := nI (p + 4 + 4)) (x5 := nI G.length) hm hL (by omega) K 0 G mm hmm (Nat.zero_le _) (by omega) (by omega)
      rw [show p + 4 + 4 + (n - 4) = p + 4 + n by omega, Nat.sub_zero, Nat.add_zero] at e4
      rw [Nat.sub_zero, Nat.add_zero] at g4
      have hby : by_ (G ++ seg L (p + 4 + 4) (n - 4)) := by_app hbG (by_seg hb)
      have e5 := ref_243 K hK (G := G) (B := seg L (p + 4 + 4) (n - 4)) (p := p) (nc := nc) (be := be) (BF := BF) (BP := BP) (op := op) (li := li) (wa := wa) (p2 := nI t) (p3 := nI (p + 4 + 4)) (p4 := nI (p + 4 + n)) hm hb hL hs (by omega) (by rw [List.length_append, hsl]; exact hr) hby g4
      rw [hsl] at e5
      rw [e4, e5]
      by_cases hq : nI (lev L (p + 4) 4) = msk (crcS (-1) (seg L (p + 4 + 4) (n - 4)) ^^^ (-1))
      · obtain ⟨gc2, e6, g6⟩ := q2 hr hq
        rw [e6, sob, if_pos hq, if_pos hq]
        exact ⟨0, G ++ seg L (p + 4 + 4) (n - 4), x, -1, _, _, _, _, _, _, _, _, _, _, _, _, _, _, _, _, _, _, _, _, gc2, c2, _, _, _, _, by rw [List.length_append, hsl]; rfl, rfl, by decide, by rw [List.length_append, hsl]; exact hr, by omega, fun y => absurd y (by decide), fun _ => ⟨rfl, rfl⟩, fun _ => ⟨rfl, hby, g6, g4, by rw [List.length_append, hsl]⟩⟩
      · rw [q3 hr hq, sob, if_neg hq, if_neg hq]
        exact ⟨18, G, x, nI p, _, _, _, _, _, _, _, _, _, _, _, _, _, _, _, _, _, _, _, _, gc, c2, _, _, _, _, rfl, rfl, by decide, hG, by omega, fun y => absurd y (by decide), fun _ => ⟨rfl, rfl⟩, fun y => absurd y (by decide)⟩
    · rw [q1 (by omega), sob, if_neg (show ¬ nI (G.length + (n - 4)) ≤ (20000 : Int32) from nI_ge (a := 20000) (by omega) (by omega))]
      unfold f_X7_told
      rw [sob]
      exact ⟨17, G, x, nI p, _, _, _, _, _, _, _, _, _, _, _, _, _, _, _, _, _, _, _, _, gc, mm, _, _, _, _, rfl, rfl, by decide, hG, by omega, fun y => absurd y (by decide), fun _ => ⟨rfl, rfl⟩, fun y => absurd y (by decide)⟩
