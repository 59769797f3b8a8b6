/-! PURE ROWS 6: the class's table of four bytes, and its press -/
theorem nx_or (a b : Nat) : nI a ||| nI b = nI (a ||| b) := by
  apply Int32.toBitVec_inj.1
  show BitVec.ofNat 32 a ||| BitVec.ofNat 32 b = BitVec.ofNat 32 (a ||| b)
  apply BitVec.eq_of_getLsbD_eq
  intro i hi
  simp [hi]
def fr4 (L : List Nat) (p : Nat) : Nat := L.getD p 0 + 256 * L.getD (p + 1) 0 + 65536 * L.getD (p + 2) 0 + 16777216 * L.getD (p + 3) 0
theorem or_add {a b i : Nat} (h : a < 2 ^ i) : a ||| 2 ^ i * b = a + 2 ^ i * b := by
  rw [Nat.or_comm, ← Nat.two_pow_add_eq_or_of_lt h, Nat.add_comm]
theorem four_or {a b c d : Nat} (ha : a < 256) (hb : b < 256) (hc : c < 256) (hd : d < 256) : ((nI a ||| (nI b <<< ((8 : Int32) &&& 31))) ||| (nI c <<< ((16 : Int32) &&& 31))) ||| (nI d <<< ((24 : Int32) &&& 31)) = nI (a + 256 * b + 65536 * c + 16777216 * d) := by
  rw [pk_shlN _ 8 (by decide) (by omega), pk_shlN _ 16 (by decide) (by omega), pk_shlN _ 24 (by decide) (by omega), nx_or, nx_or, nx_or]
  have e1 : a ||| b * 2 ^ 8 = a + 256 * b := by rw [Nat.mul_comm, or_add (show a < 2 ^ 8 by omega)]
  have e2 : (a + 256 * b) ||| c * 2 ^ 16 = a + 256 * b + 65536 * c := by rw [Nat.mul_comm c, or_add (show a + 256 * b < 2 ^ 16 by omega)]
  have e3 : (a + 256 * b + 65536 * c) ||| d * 2 ^ 24 = a + 256 * b + 65536 * c + 16777216 * d := by rw [Nat.mul_comm d, or_add (show a + 256 * b + 65536 * c < 2 ^ 24 by omega)]
  rw [e1, e2, e3]
theorem fr4_lt {L : List Nat} (hb : by_ L) (p : Nat) : fr4 L p < 4294967296 := by
  unfold fr4
  have h0 := hb p; have h1 := hb (p + 1); have h2 := hb (p + 2); have h3 := hb (p + 3)
  omega
theorem seg4 {L : List Nat} {p : Nat} (h : p + 4 ≤ L.length) : seg L p 4 = [L.getD p 0, L.getD (p + 1) 0, L.getD (p + 2) 0, L.getD (p + 3) 0] := by
  rw [seg_cons (by omega), seg_cons (by omega), seg_cons (by omega), seg_cons (by omega), seg_0]
theorem fr4_eq {L : List Nat} (hb : by_ L) {p q : Nat} (hp : p + 4 ≤ L.length) (hq : q + 4 ≤ L.length) : nI (fr4 L p) = nI (fr4 L q) ↔ seg L p 4 = seg L q 4 := by
  constructor
  · intro h
    have h1 := congrArg (fun z : Int32 => z.toBitVec.toNat) h
    simp only [pk_tn (show fr4 L p < 2 ^ 32 from fr4_lt hb p), pk_tn (show fr4 L q < 2 ^ 32 from fr4_lt hb q)] at h1
    rw [seg4 hp, seg4 hq]
    unfold fr4 at h1
    have a0 := hb p; have a1 := hb (p + 1); have a2 := hb (p + 2); have a3 := hb (p + 3)
    have b0 := hb q; have b1 := hb (q + 1); have b2 := hb (q + 2); have b3 := hb (q + 3)
    have e0 : L.getD p 0 = L.getD q 0 := by omega
    have e1 : L.getD (p + 1) 0 = L.getD (q + 1) 0 := by omega
    have e2 : L.getD (p + 2) 0 = L.getD (q + 2) 0 := by omega
    have e3 : L.getD (p + 3) 0 = L.getD (q + 3) 0 := by omega
    rw [e0, e1, e2, e3]
  · intro h
    have hg : ∀ j, j < 4 → L.getD (p + j) 0 = L.getD (q + j) 0 := fun j hj => by rw [← seg_get (n := 4) hj, ← seg_get (n := 4) hj, h]
    unfold fr4
    rw [show L.getD p 0 = L.getD q 0 from hg 0 (by omega), hg 1 (by omega), hg 2 (by omega), hg 3 (by omega)]
theorem four_ok (K : Nat) {N p : Nat} {L : List Nat} {c : Nat → Int32} (hc : cL c L) (hb : by_ L) (hl : L.length ≤ N) (hN : N < 2 ^ 30) (hp : p + 4 ≤ L.length) : f_X1_fourFrom K (nI L.length) N c (nI p) = some (nI (fr4 L p)) := by
  unfold f_X1_fourFrom
  rw [show (4 : Int32) = nI 4 from rfl, has_1 K hp (by omega), sob, i10, show (1 : Int32) = nI 1 from rfl, show (2 : Int32) = nI 2 from rfl, show (3 : Int32) = nI 3 from rfl, nI_add, nI_add, nI_add, ck_n (by omega) (by omega), ck_n (by omega) (by omega), ck_n (by omega) (by omega), ck_n (by omega) (by omega), nI_clamp (by omega), nI_clamp (by omega), nI_clamp (by omega), nI_clamp (by omega), hc p (by omega), hc (p + 1) (by omega), hc (p + 2) (by omega), hc (p + 3) (by omega), four_or (hb _) (hb _) (hb _) (hb _)]
  rfl
def hsh (j : Nat) (v : Int32) : Nat := (ushr (v * (-1640531535)) 15).toBitVec.toNat % 2 ^ j
theorem msk_tn {j : Nat} (hj : j ≤ 30) : (nI (2 ^ j - 1)).toBitVec.toNat = 2 ^ j - 1 := pk_tn (by
  have : 2 ^ j ≤ 2 ^ 30 := Nat.pow_le_pow_right (by decide) hj
  omega)
theorem hsh_ok {j : Nat} (hj : j ≤ 30) (v : Int32) : (ushr (v * (-1640531535)) 15) &&& nI (2 ^ j - 1) = nI (hsh j v) := pk_and _ j (msk_tn hj)
theorem nxt_ok {j i : Nat} (hj : j ≤ 30) (hi : i < 2 ^ j) : (nI i + 1) &&& nI (2 ^ j - 1) = nI ((i + 1) % 2 ^ j) := by
  have : 2 ^ j ≤ 2 ^ 30 := Nat.pow_le_pow_right (by decide) hj
  rw [nI_1, pk_andN (by omega) j (msk_tn hj)]
/-- S different numbers below m -/
theorem pig : ∀ (m S : Nat) (f : Nat → Nat), (∀ i, i < S → f i < m) → (∀ i j, i < S → j < S → f i = f j → i = j) → S ≤ m
  | 0, S, f, h, _ => by
    rcases Nat.eq_zero_or_pos S with e | e
    · omega
    · exact absurd (h 0 e) (Nat.not_lt_zero _)
  | m + 1, 0, f, _, _ => Nat.zero_le _
  | m + 1, S + 1, f, h, hi => by
    have := pig m S (fun i => if f i = m then f S else f i) (fun i hi1 => by
      by_cases e : f i = m
      · simp only [if_pos e]
        have h1 := h S (by omega)
        have h2 : f S ≠ m := fun e2 => by have := hi i S (by omega) (by omega) (e.trans e2.symm); omega
        omega
      · simp only [if_neg e]
        have h1 := h i (by omega)
        omega) (fun i j hi1 hj1 e => by
      by_cases e1 : f i = m
      · by_cases e2 : f j = m
        · exact hi i j (by omega) (by omega) (e1.trans e2.symm)
        · simp only [if_pos e1, if_neg e2] at e
          have := hi S j (by omega) (by omega) e; omega
      · by_cases e2 : f j = m
        · simp only [if_neg e1, if_pos e2] at e
          have := hi i S (by omega) (by omega) e; omega
        · simp only [if_neg e1, if_neg e2] at e
          exact hi i j (by omega) (by omega) e)
    omega
abbrev hs (L : List Nat) (j r : Nat) : Nat := hsh j (nI (fr4 L r))
def TI (L : List Nat) (fr p j : Nat) (s : Nat → Int32) : Prop :=
  (∀ i, i < 2 ^ j → s i = 0 ∨ ∃ q, fr ≤ q ∧ q < p ∧ s i = nI (q + 1)) ∧
  (∀ i i' q q', i < 2 ^ j → i' < 2 ^ j → s i = nI (q + 1) → s i' = nI (q' + 1) → q < p → q' < p → seg L q 4 = seg L q' 4 → i = i') ∧
  (∀ r, fr ≤ r → r < p → ∃ q d, r ≤ q ∧ q < p ∧ d < 2 ^ j ∧ seg L q 4 = seg L r 4 ∧ s ((hs L j r + d) % 2 ^ j) = nI (q + 1) ∧ ∀ d', d' < d → ¬ s ((hs L j r + d') % 2 ^ j) = 0)
theorem TI_0 {L : List Nat} {fr j : Nat} {s : Nat → Int32} (hfr : fr < 2 ^ 30) (h : ∀ i, i < 2 ^ j → s i = 0) : TI L fr fr j s :=
  ⟨fun i hi => Or.inl (h i hi), fun i i' q q' hi _ h1 _ h3 _ _ => by
    rw [h i hi] at h1
    exact absurd h1.symm (nI_ne0 (by omega) (by omega)), fun r h1 h2 => by omega⟩
theorem TI_upd {L : List Nat} {fr p j d : Nat} {s : Nat → Int32} (hp : p + 1 < 2 ^ 31) (hfr : fr ≤ p) (hd : d < 2 ^ j) (hT : TI L fr p j s) (hw : ∀ d', d' < d → ¬ s ((hs L j p + d') % 2 ^ j) = 0)
    (hc : (s ((hs L j p + d) % 2 ^ j) = 0 ∧ ∀ r, fr ≤ r → r < p → ¬ seg L r 4 = seg L p 4) ∨ ∃ q, fr ≤ q ∧ q < p ∧ s ((hs L j p + d) % 2 ^ j) = nI (q + 1) ∧ seg L q 4 = seg L p 4) : TI L fr (p + 1) j (upd s ((hs L j p + d) % 2 ^ j) (nI (p + 1))) := by
  obtain ⟨ta, tb, tc⟩ := hT
  have hpos : 0 < 2 ^ j := Nat.two_pow_pos j
  have hil : (hs L j p + d) % 2 ^ j < 2 ^ j := Nat.mod_lt _ hpos
  generalize hi : (hs L j p + d) % 2 ^ j = i at *
  have inj : ∀ a b : Nat, a ≤ p → b ≤ p → nI (a + 1) = nI (b + 1) → a = b := fun a b ha hb e => by
    have := (nI_eq (a := a + 1) (b := b + 1) (by omega) (by omega)).mp e; omega
  have old : ∀ i0 q, i0 < 2 ^ j → s i0 = nI (q + 1) → q < p + 1 → fr ≤ q ∧ q < p := by
    intro i0 q h1 h2 h3
    rcases ta i0 h1 with h | ⟨q2, h4, h5, h6⟩
    · rw [h] at h2
      exact absurd h2.symm (nI_ne0 (by omega) (by omega))
    · have := inj q q2 (by omega) (by omega) (h2.symm.trans h6)
      omega
  have one : ∀ i0 q, i0 < 2 ^ j → i0 ≠ i → s i0 = nI (q + 1) → q < p → seg L q 4 = seg L p 4 → False := by
    intro i0 q h1 h2 h3 h4 h5
    rcases hc with ⟨c1, c2⟩ | ⟨q0, c1, c2, c3, c4⟩
    · exact c2 q (old i0 q h1 h3 (by omega)).1 h4 h5
    · exact h2 (tb i0 i q q0 h1 hil h3 c3 h4 c2 (h5.trans c4.symm))
  refine ⟨fun i0 h1 => ?_, fun i0 i1 q q' h1 h2 h3 h4 h5 h6 h7 => ?_, fun r h1 h2 => ?_⟩
  · by_cases e : i0 = i
    · subst e; exact Or.inr ⟨p, hfr, by omega, pk_us⟩
    · rw [pk_un e]
      rcases ta i0 h1 with h | ⟨q2, h4, h5, h6⟩
      · exact Or.inl h
      · exact Or.inr ⟨q2, h4, by omega, h6⟩
  · by_cases e : i0 = i
    · by_cases e2 : i1 = i
      · exact e.trans e2.symm
      · subst e
        rw [pk_us] at h3
        rw [pk_un e2] at h4
        have e3 := inj p q (by omega) (by omega) h3
        have e4 := old i1 q' h2 h4 h6
        subst e3
        exact (one i1 q' h2 e2 h4 e4.2 h7.symm).elim
    · by_cases e2 : i1 = i
      · subst e2
        rw [pk_us] at h4
        rw [pk_un e] at h3
        have e3 := inj p q' (by omega) (by omega) h4
        have e4 := old i0 q h1 h3 h5
        subst e3
        exact (one i0 q h1 e h3 e4.2 h7).elim
      · rw [pk_un e] at h3
        rw [pk_un e2] at h4
        exact tb i0 i1 q q' h1 h2 h3 h4 (old i0 q h1 h3 h5).2 (old i1 q' h2 h4 h6).2 h7
  · have nz : ∀ i0, ¬ s i0 = 0 → ¬ upd s i (nI (p + 1)) i0 = 0 := by
      intro i0 h
      by_cases e : i0 = i
      · subst e; rw [pk_us]; exact nI_ne0 (by omega) hp
      · rw [pk_un e]; exact h
    rcases Nat.eq_or_lt_of_le (Nat.lt_succ_iff.mp h2) with e | e
    · subst e
      exact ⟨r, d, Nat.le_refl _, by omega, hd, rfl, by rw [hi, pk_us], fun d' h => nz _ (hw d' h)⟩
    · obtain ⟨q, d1, a1, a2, a3, a4, a5, a6⟩ := tc r h1 e
      by_cases e1 : (hs L j r + d1) % 2 ^ j = i
      · refine ⟨p, d1, by omega, by omega, a3, ?_, by rw [e1, pk_us], fun d' h => nz _ (a6 d' h)⟩
        rw [e1] at a5
        rcases hc with ⟨c1, c2⟩ | ⟨q0, c1, c2, c3, c4⟩
        · rw [c1] at a5; exact absurd a5.symm (nI_ne0 (by omega) (by omega))
        · have := inj q0 q (by omega) (by omega) (c3.symm.trans a5)
          subst this
          exact c4.symm.trans a4
      · exact ⟨q, d1, a1, by omega, a3, a4, by rw [pk_un e1]; exact a5, fun d' h => nz _ (a6 d' h)⟩
def lqI (o : Option Nat) : Int32 := match o with
  | none => -1
  | some q => nI q
theorem naf_b (K : Nat) {N p fr j : Nat} {L : List Nat} {c s : Nat → Int32} (hc : cL c L) (hb : by_ L) (hl : L.length ≤ N) (hN : N < 2 ^ 30) (hp : p + 4 ≤ L.length) (hfr : fr ≤ p) (hj : j ≤ 15) (hS : p - fr < 2 ^ j) (hT : TI L fr p j s) :
    ∀ (q d : Nat), d ≤ 2 ^ j → 2 ^ j - d < q → (∀ d', d' < d → ∃ r, fr ≤ r ∧ r < p ∧ s ((hs L j p + d') % 2 ^ j) = nI (r + 1) ∧ ¬ seg L r 4 = seg L p 4) → ∃ s', f_X2_noteAndFind_b23 K (nI (2 ^ j - 1)) 32768 (nI L.length) N c (nI p) q s (nI (fr4 L p)) (nI ((hs L j p + d) % 2 ^ j)) (nI d) = some (lqI (lq L fr p (p - fr)), s') ∧ TI L fr (p + 1) j s' := by
  have hpos : 0 < 2 ^ j := Nat.two_pow_pos j
  have hS2 : 2 ^ j ≤ 32768 := by
    have : 2 ^ j ≤ 2 ^ 15 := Nat.pow_le_pow_right (by decide) hj
    omega
  intro q
  induction q with
  | zero => intro d _ h; omega
  | succ q ih =>
    intro d hd hq hw
    rw [f_X2_noteAndFind_b23]
    rcases Nat.eq_or_lt_of_le hd with e | e
    · exfalso
      -- every slot is taken: too many places
      have all : ∀ i, i < 2 ^ j → ∃ r, fr ≤ r ∧ r < p ∧ s i = nI (r + 1) := by
        intro i hi
        have hh : hs L j p < 2 ^ j := Nat.mod_lt _ hpos
        obtain ⟨r, h1, h2, h3, -⟩ := hw ((i + 2 ^ j - hs L j p) % 2 ^ j) (by rw [e]; exact Nat.mod_lt _ hpos)
        have e2 : (hs L j p + (i + 2 ^ j - hs L j p) % 2 ^ j) % 2 ^ j = i := by
          rw [Nat.add_mod_mod, show hs L j p + (i + 2 ^ j - hs L j p) = i + 2 ^ j by omega, Nat.add_mod_right, Nat.mod_eq_of_lt hi]
        rw [e2] at h3
        exact ⟨r, h1, h2, h3⟩
      have := pig (p - fr) (2 ^ j) (fun i => (s i).toNatClampNeg - 1 - fr) (fun i hi => by
        obtain ⟨r, h1, h2, h3⟩ := all i hi
        simp only [h3, nI_clamp (show r + 1 < 2 ^ 31 by omega)]; omega) (fun i i' hi hi' he => by
        obtain ⟨r, h1, h2, h3⟩ := all i hi
        obtain ⟨r', h1', h2', h3'⟩ := all i' hi'
        simp only [h3, h3', nI_clamp (show r + 1 < 2 ^ 31 by omega), nI_clamp (show r' + 1 < 2 ^ 31 by omega)] at he
        have er : r = r' := by omega
        exact hT.2.1 i i' r r' hi hi' h3 h3' h2 h2' (by rw [er]))
      omega
    · have hil : (hs L j p + d) % 2 ^ j < 2 ^ j := Nat.mod_lt _ hpos
      rw [if_neg (nI_nlt (show d ≤ 2 ^ j - 1 by omega) (by omega)), ck_n (show (hs L j p + d) % 2 ^ j < 32768 by omega) (by decide), nI_clamp (by omega)]
      have nzw : ∀ d', d' < d → ¬ s ((hs L j p + d') % 2 ^ j) = 0 := by
        intro d' h
        obtain ⟨r, h1, h2, h3, -⟩ := hw d' h
        rw [h3]; exact nI_ne0 (by omega) (by omega)
      rcases hT.1 _ hil with h0 | ⟨r, h1, h2, h3⟩
      · -- a free slot: there is none
        rw [h0, if_pos (show ((0 : Int32) - 1) < 0 by decide)]
        unfold f_X2_noteAndFind_b58
        rw [ck_n (show (hs L j p + d) % 2 ^ j < 32768 by omega) (by decide), nI_clamp (by omega), nI_1]
        have non : ∀ r, fr ≤ r → r < p → ¬ seg L r 4 = seg L p 4 := by
          intro r h1 h2 h3
          obtain ⟨q1, d1, a1, a2, a3, a4, a5, a6⟩ := hT.2.2 r h1 h2
          have eh : hs L j r = hs L j p := by
            unfold hs; rw [(fr4_eq hb (by omega) hp).mpr h3]
          rw [eh] at a5 a6
          rcases Nat.lt_trichotomy d d1 with z | z | z
          · exact a6 d z h0
          · subst z; rw [h0] at a5; exact nI_ne0 (by omega) (by omega) a5.symm
          · obtain ⟨r1, b1, b2, b3, b4⟩ := hw d1 z
            have e3 := (nI_eq (by omega) (by omega)).mp (b3.symm.trans a5)
            have e4 : r1 = q1 := by omega
            subst e4
            exact b4 (a4.trans h3)
        rw [lq_none (p - fr) (fun r h1 h2 => non r h1 (by omega))]
        exact ⟨_, rfl, TI_upd (by omega) hfr e hT nzw (Or.inl ⟨h0, non⟩)⟩
      · rw [h3, show nI (r + 1) - (1 : Int32) = nI r from pk_sub (b := 1) (by omega), if_neg (nI_pos (by omega)), four_ok K hc hb hl hN (show r + 4 ≤ L.length by omega), sob]
        by_cases h4 : seg L r 4 = seg L p 4
        · rw [if_pos ((fr4_eq hb (by omega) hp).mpr h4)]
          unfold f_X2_noteAndFind_b58
          rw [ck_n (show (hs L j p + d) % 2 ^ j < 32768 by omega) (by decide), nI_clamp (by omega), nI_1]
          have lat : ∀ r', r < r' → r' < fr + (p - fr) → ¬ seg L r' 4 = seg L p 4 := by
            intro r' b1 b2 b3
            obtain ⟨q1, d1, a1, a2, a3, a4, a5, a6⟩ := hT.2.2 r' (by omega) (by omega)
            have e5 := hT.2.1 _ _ q1 r (Nat.mod_lt _ hpos) hil a5 h3 a2 h2 (a4.trans (b3.trans h4.symm))
            rw [e5, h3] at a5
            have e3 := (nI_eq (a := r + 1) (b := q1 + 1) (by omega) (by omega)).mp a5
            omega
          rw [lq_some h1 h4 (p - fr) (by omega) lat]
          exact ⟨_, rfl, TI_upd (by omega) hfr e hT nzw (Or.inr ⟨r, h1, h2, h3, h4⟩)⟩
        · rw [if_neg (fun z => h4 ((fr4_eq hb (by omega) hp).mp z)), nxt_ok (by omega) hil, nI_1]
          have e6 : ((hs L j p + d) % 2 ^ j + 1) % 2 ^ j = (hs L j p + (d + 1)) % 2 ^ j := by
            rw [Nat.mod_add_mod]; rfl
          rw [e6]
          refine ih (d + 1) e (by omega) (fun d' hd' => ?_)
          rcases Nat.eq_or_lt_of_le (Nat.lt_succ_iff.mp hd') with z | z
          · subst z; exact ⟨r, h1, h2, h3, h4⟩
          · exact hw d' z
theorem naf_ok (K : Nat) (hK : 32769 < K) {N p fr j : Nat} {L : List Nat} {c s : Nat → Int32} (hc : cL c L) (hb : by_ L) (hl : L.length ≤ N) (hN : N < 2 ^ 30) (hp : p + 4 ≤ L.length) (hfr : fr ≤ p) (hj : j ≤ 15) (hS : p - fr < 2 ^ j) (hT : TI L fr p j s) : ∃ s', f_X2_noteAndFind K (nI (2 ^ j - 1)) 32768 s (nI L.length) N c (nI p) = some (lqI (lq L fr p (p - fr)), s') ∧ TI L fr (p + 1) j s' := by
  unfold f_X2_noteAndFind
  have hS2 : 2 ^ j ≤ 32768 := by
    have : 2 ^ j ≤ 2 ^ 15 := Nat.pow_le_pow_right (by decide) hj
    omega
  rw [four_ok K hc hb hl hN hp, sob, hsh_ok (by omega)]
  have h := naf_b K hc hb hl hN hp hfr hj hS hT K 0 (Nat.zero_le _) (by omega) (fun d' h => absurd h (Nat.not_lt_zero _))
  rw [Nat.add_zero, Nat.mod_eq_of_lt (show hs L j p < 2 ^ j from Nat.mod_lt _ (Nat.two_pow_pos j))] at h
  exact h
theorem alk_c (K : Nat) {N q p e : Nat} {L : List Nat} {c : Nat → Int32} (hc : cL c L) (hb : by_ L) (hl : L.length ≤ N) (hN : N < 2 ^ 30) (hqp : q < p) (he : e ≤ L.length) : ∀ (z f k : Nat), p + k ≤ e → e - (p + k) < z → e - (p + k) < f → f_X2_countAlike_b3 K (nI L.length) N c (nI q) (nI p) (nI e) z (nI k) = some (nI (alk L q p e f k)) := by
  intro z
  induction z with
  | zero => intro f k _ h; omega
  | succ z ih =>
    intro f k hk hz hf
    obtain ⟨f, rfl⟩ : ∃ y, f = y + 1 := ⟨f - 1, by omega⟩
    rw [f_X2_countAlike_b3, alk, nI_add]
    by_cases h : p + k < e
    · rw [if_pos h, if_neg (nI_ge h (by omega)), nI_add, at_1 K hc (show q + k < L.length by omega) hl (by omega), sob, at_1 K hc (show p + k < L.length by omega) hl (by omega), sob, nI_1]
      have h1 := hb (q + k); have h2 := hb (p + k)
      by_cases h3 : L.getD (q + k) 0 = L.getD (p + k) 0
      · rw [if_pos h3, if_pos (by rw [h3]), ih f (k + 1) (by omega) (by omega) (by omega)]
      · rw [if_neg h3, if_neg (fun y => h3 ((nI_eq (by omega) (by omega)).mp y))]
    · rw [if_neg h, if_pos (nI_le (show e ≤ p + k by omega) (by omega))]
theorem alk_ok (K : Nat) {N q p e : Nat} {L : List Nat} {c : Nat → Int32} (hK : e + 1 < K) (hc : cL c L) (hb : by_ L) (hl : L.length ≤ N) (hN : N < 2 ^ 30) (hqp : q < p) (he : e ≤ L.length) (hp : p ≤ e) : f_X2_countAlike K (nI L.length) N c (nI q) (nI p) (nI e) = some (nI (alk L q p e (e + 4) 0)) := by
  unfold f_X2_countAlike
  exact alk_c K hc hb hl hN hqp he K (e + 4) 0 (by omega) (by omega) (by omega)
theorem lqI_m1 {L : List Nat} {fr p n : Nat} (h : fr + n < 2 ^ 31) : (lqI (lq L fr p n) = -1 ↔ lq L fr p n = none) := by
  rcases lq_spec (L := L) (fr := fr) (p := p) n with e | ⟨q, e, h1, h2, -⟩
  · rw [e]; exact ⟨fun _ => rfl, fun _ => rfl⟩
  · rw [e]
    constructor
    · intro h3
      have h4 : ¬ nI q < 0 := nI_pos (by omega)
      have h5 : nI q = -1 := h3
      rw [h5] at h4
      exact absurd (by decide) h4
    · intro h3; cases h3
theorem prs_c (K : Nat) (hK : 32769 < K) {N2 fr e j : Nat} {p2 p3 : Int32} {L : List Nat} {c : Nat → Int32} (hc : cL c L) (hb : by_ L) (hl : L.length ≤ N2) (hN2 : N2 ≤ 20000) (he : e ≤ L.length) (hfe : fr ≤ e) (hj : j ≤ 15) (hS : e - fr < 2 ^ j) :
    ∀ (z f told p : Nat) (O : List Nat) (b s : Nat → Int32), cL b O → TI L fr p j s → fr ≤ p → fr ≤ told → told ≤ e → p ≤ e → e - p < z → e - max p told < f → O.length + (e - told) + (e - told) / 61 + 3 ≤ 24000 →
      ∃ b' s', f_X2_pressBlock_b29 K 24000 32768 (nI L.length) N2 c p2 p3 z (nI (2 ^ j - 1)) (nI O.length) b s (nI e) (nI told) (nI p) = some (nI (2 ^ j - 1), nI (O ++ prs L fr e f told (max p told)).length, b', s') ∧ cL b' (O ++ prs L fr e f told (max p told)) := by
  intro z
  induction z with
  | zero => intro f told p O b s _ _ _ _ _ _ h; omega
  | succ z ih =>
    intro f told p O b s hbO hT hfp hft hte hpe hz hf hcap
    rw [f_X2_pressBlock_b29, show (4 : Int32) = nI 4 from rfl, nI_add]
    by_cases h4 : p + 4 ≤ e
    · rw [if_neg (nI_nlt h4 (by omega))]
      obtain ⟨s1, f1, g1⟩ := naf_ok K hK (N := N2) hc hb hl (by omega) (show p + 4 ≤ L.length by omega) hfp hj (by omega) hT
      rw [f1, sob, nI_1]
      dsimp only
      by_cases hpt : p < told
      · -- inside a COPY: noted, no more
        have em : max (p + 1) told = max p told := by omega
        have h := ih f told (p + 1) O b s1 hbO g1 (by omega) hft hte (by omega) (by omega) (by rw [em]; exact hf) hcap
        rw [em] at h
        by_cases hq : lqI (lq L fr p (p - fr)) = -1
        · rw [if_pos hq]; exact h
        · rw [if_neg hq, if_pos (nI_lt hpt (by omega))]; exact h
      · have em : max p told = p := by omega
        obtain ⟨f, rfl⟩ : ∃ y, f = y + 1 := ⟨f - 1, by omega⟩
        rw [em] at hf ⊢
        rcases lq_spec (L := L) (fr := fr) (p := p) (p - fr) with hq | ⟨q, hq, q1, q2, q3⟩
        · rw [prs_none h4 hq, hq, if_pos (show lqI none = -1 from rfl)]
          have em2 : max (p + 1) told = p + 1 := by omega
          have h := ih f told (p + 1) O b s1 hbO g1 (by omega) hft hte (by omega) (by omega) (by rw [em2]; omega) hcap
          rw [em2] at h
          exact h
        · have hpl := prs_len (fr := fr) he (f + 1) told p (by omega) hpe hfp
          rw [prs_some h4 hq] at hpl ⊢
          rw [hq, if_neg (show ¬ lqI (some q) = -1 from fun y => by
            have h5 : ¬ nI q < 0 := nI_pos (by omega)
            rw [show nI q = -1 from y] at h5
            exact absurd (by decide) h5), if_neg (nI_nlt (show told ≤ p by omega) (by omega))]
          have a1 := alk_4 (L := L) (q := q) (p := p) (e := e) (f := e + 4) (by omega) h4 q3
          have a2 := alk_le (L := L) (q := q) (p := p) (e := e) (e + 4) 0 (by omega)
          rw [show lqI (some q) = nI q from rfl, alk_ok K (by omega) hc hb hl (by omega) (show q < p by omega) he hpe, sob]
          have hpl2 := prs_len (fr := fr) he f (p + alk L q p e (e + 4) 0) (p + alk L q p e (e + 4) 0) (Nat.le_refl _) a2.2 (by omega)
          have hcl := copL_len (p - q) (alk L q p e (e + 4) 0 + 1) _ a1
          have hll := litL_len (seg L told (p - told))
          rw [seg_len (by omega)] at hll
          rw [List.length_append, List.length_append] at hpl
          generalize hk : alk L q p e (e + 4) 0 = k at *
          have hlit : O.length + (litL (seg L told (p - told))).length + (k - 1) + 3 + (e - (p + k)) + (e - (p + k)) / 61 ≤ 24000 := by
            generalize (litL (seg L told (p - told))).length = x at hll ⊢
            by_cases b1 : p - told = 0
            · rw [if_pos b1] at hll; omega
            · rw [if_neg b1] at hll
              by_cases b2 : p - told - 1 < 60
              · rw [if_pos b2] at hll; omega
              · rw [if_neg b2] at hll
                by_cases b3 : p - told - 1 < 256
                · rw [if_pos b3] at hll; omega
                · rw [if_neg b3] at hll; omega
          obtain ⟨b1, f2, g2⟩ := lit_c K (by omega) (N := 24000) (N2 := N2) (i := told) (k := p - told) hbO hc hl (by omega) (by omega) (by omega) (by decide)
          rw [pk_sub (show told ≤ p by omega), f2, sob]
          have f3 : ∃ c', f_X2_putCopies K (nI (O ++ litL (seg L told (p - told))).length) 24000 b1 (nI k) (nI (p - q)) = some (nI (O ++ litL (seg L told (p - told)) ++ copL (k + 1) k (p - q)).length, c') ∧ cL c' (O ++ litL (seg L told (p - told)) ++ copL (k + 1) k (p - q)) := by
            unfold f_X2_putCopies
            exact copL_c K (by omega) (by omega) (by decide) K (k + 1) k _ b1 g2 a1 (by omega) (by omega) (by omega) (by rw [List.length_append]; omega)
          obtain ⟨b2, f3, g3⟩ := f3
          rw [pk_sub (show q ≤ p by omega), f3, sob, nI_add]
          have em2 : max (p + 1) (p + k) = p + k := by omega
          have h := ih f (p + k) (p + 1) _ b2 s1 g3 g1 (by omega) (by omega) (by omega) (by omega) (by omega) (by rw [em2]; omega) (by rw [List.length_append, List.length_append]; omega)
          rw [em2] at h
          simp only [List.append_assoc] at h ⊢
          exact h
    · rw [if_pos (nI_lt (show e < p + 4 by omega) (by omega))]
      obtain ⟨f, rfl⟩ : ∃ y, f = y + 1 := ⟨f - 1, by omega⟩
      have hpl := prs_len (fr := fr) he (f + 1) told (max p told) (by omega) (by omega) (by omega)
      rw [prs_end (show ¬ max p told + 4 ≤ e by omega)] at hpl ⊢
      obtain ⟨b1, f2, g2⟩ := lit_c K (by omega) (N := 24000) (N2 := N2) (i := told) (k := e - told) hbO hc hl (by omega) (by omega) (by omega) (by decide)
      rw [pk_sub hte, f2, sob]
      exact ⟨b1, s, rfl, g2⟩
