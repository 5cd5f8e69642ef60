/-! Counters. A place is 0 for a gap, v + 1 for v. -/
def pv (n : Nat) : Int32 := if n = 0 then -nI 1 else nI (n - 1)
theorem pv_0 : pv 0 = -nI 1 := rfl
theorem pv_s {n : Nat} (h : n ≠ 0) : pv n = nI (n - 1) := if_neg h
def CR (I : mm_I) (c : Nat) (s : Int32) (z : Nat) (q : Nat → Nat) : Prop := I 1 c 0 = s ∧ I 1 c 1 = nI z ∧ ∀ k, k < 24 → I 25 c k = pv (q k)
def MR (I : mm_I) (c : Nat) (s : Int32) (z : Nat) (q : Nat → Nat) : Prop := I 64 0 c = s ∧ I 65 0 c = nI z ∧ ∀ k, k < 24 → I 66 0 (24 * c + k) = pv (q k)
def sOk (s : Int32) : Prop := s = -nI 1 ∨ s = nI 0 ∨ s = nI 1
def qOk (q : Nat → Nat) : Prop := ∀ k, k < 24 → q k ≤ 30001
def CM (I : mm_I) (c : Nat) : Prop := ∃ s z q, sOk s ∧ z ≤ 24 ∧ qOk q ∧ CR I c s z q ∧ MR I c s z q
noncomputable def dq (x : Int32) : Nat := if x = -nI 1 then 0 else x.toInt.toNat + 1
theorem dq_p {x : Int32} (h : plc x) : x = pv (dq x) ∧ dq x ≤ 30001 := by
  unfold dq
  rcases h with h | ⟨v, h1, h2⟩
  · rw [if_pos h]; exact ⟨h, by omega⟩
  · rw [if_neg (by rw [h2]; exact fun q => by rw [ngE (by omega) (by decide) (by decide)] at q; exact q), h2, nN (by omega)]
    exact ⟨by rw [pv_s (by omega), Nat.add_sub_cancel], by omega⟩
theorem pv_plc {n : Nat} (h : n ≤ 30001) : plc (pv n) := by
  by_cases e : n = 0
  · subst e; exact Or.inl rfl
  · rw [pv_s e]; exact Or.inr ⟨n - 1, by omega, rfl⟩
theorem Cnt_iff {I : mm_I} : Cnt I ↔ ∀ c, c < 9 → CM I c := by
  constructor
  · intro h c hc
    obtain ⟨s, z, h1, h2, h3, h4, h5, h6, h7⟩ := h c hc
    refine ⟨s, z, fun k => dq (I 25 c k), h1, h2, fun k hk => (dq_p (h7 k hk).1).2, ⟨h3, h5, fun k hk => (dq_p (h7 k hk).1).1⟩, ⟨h4, h6, fun k hk => ?_⟩⟩
    rw [(h7 k hk).2]
    exact (dq_p (h7 k hk).1).1
  · intro h c hc
    obtain ⟨s, z, q, h1, h2, h3, h4, h5⟩ := h c hc
    refine ⟨s, z, h1, h2, h4.1, h5.1, h4.2.1, h5.2.1, fun k hk => ⟨?_, ?_⟩⟩
    · rw [h4.2.2 k hk]; exact pv_plc (h3 k hk)
    · rw [h4.2.2 k hk, h5.2.2 k hk]
/-- counter c aside -/
theorem CM_eq {I I' : mm_I} {c : Nat} (h : CM I c) (e1 : ∀ j, I' 1 c j = I 1 c j) (e25 : ∀ k, k < 24 → I' 25 c k = I 25 c k) (e64 : I' 64 0 c = I 64 0 c) (e65 : I' 65 0 c = I 65 0 c) (e66 : ∀ k, k < 24 → I' 66 0 (24 * c + k) = I 66 0 (24 * c + k)) : CM I' c := by
  obtain ⟨s, z, q, h1, h2, h3, h4, h5⟩ := h
  exact ⟨s, z, q, h1, h2, h3, ⟨by rw [e1]; exact h4.1, by rw [e1]; exact h4.2.1, fun k hk => by rw [e25 k hk]; exact h4.2.2 k hk⟩, ⟨by rw [e64]; exact h5.1, by rw [e65]; exact h5.2.1, fun k hk => by rw [e66 k hk]; exact h5.2.2 k hk⟩⟩
def nlL (q : Nat → Nat) : Nat → Nat
  | 0 => q 0
  | p + 1 => if q (p + 1) = 0 then nlL q p else q (p + 1)
def nlR (q : Nat → Nat) : Nat → Nat → Nat
  | _, 0 => 0
  | p, n + 1 => if q p = 0 then nlR q (p + 1) n else q p
theorem nlL_b {q : Nat → Nat} (h : qOk q) : ∀ p, p < 24 → nlL q p ≤ 30001
  | 0, _ => h 0 (by decide)
  | p + 1, hp => by
    rw [nlL]
    split
    · exact nlL_b h p (by omega)
    · exact h (p + 1) hp
theorem nlR_b {q : Nat → Nat} (h : qOk q) : ∀ n p, p + n ≤ 24 → nlR q p n ≤ 30001
  | 0, _, _ => Nat.zero_le _
  | n + 1, p, hp => by
    rw [nlR]
    split
    · exact nlR_b h n (p + 1) (by omega)
    · exact h p (by omega)
theorem nlL_0 {q : Nat → Nat} : ∀ {p : Nat}, nlL q p = 0 ↔ ∀ k, k ≤ p → q k = 0
  | 0 => ⟨fun h k hk => by rw [show k = 0 by omega]; exact h, fun h => h 0 (Nat.le_refl _)⟩
  | p + 1 => by
    rw [nlL]
    by_cases e : q (p + 1) = 0
    · rw [if_pos e, nlL_0]
      exact ⟨fun h k hk => by
        by_cases z : k = p + 1
        · rw [z]; exact e
        · exact h k (by omega), fun h k hk => h k (by omega)⟩
    · rw [if_neg e]
      exact ⟨fun h => absurd h e, fun h => absurd (h (p + 1) (Nat.le_refl _)) e⟩
theorem nlR_0 {q : Nat → Nat} : ∀ {n p : Nat}, nlR q p n = 0 ↔ ∀ k, p ≤ k → k < p + n → q k = 0
  | 0, p => ⟨fun _ k h1 h2 => by omega, fun _ => rfl⟩
  | n + 1, p => by
    rw [nlR]
    by_cases e : q p = 0
    · rw [if_pos e, nlR_0]
      exact ⟨fun h k h1 h2 => by
        by_cases z : k = p
        · rw [z]; exact e
        · exact h k (by omega) (by omega), fun h k h1 h2 => h k (by omega) (by omega)⟩
    · rw [if_neg e]
      exact ⟨fun h => absurd h e, fun h => absurd (h p (Nat.le_refl _) (by omega)) e⟩
def edN (w a b : Nat) : Nat := if a = 0 then b else if b = 0 then a else if w = 1 then (if a < b then b else a) else (if b < a then b else a)
def egN (q : Nat → Nat) (z p w : Nat) : Nat := edN w (nlL q p) (nlR q p (z - p))
theorem egN_b {q : Nat → Nat} {z p w : Nat} (h : qOk q) (hz : z ≤ 24) (hp : p < z) : egN q z p w ≤ 30001 := by
  have h1 := nlL_b h p (by omega)
  have h2 := nlR_b h (z - p) p (by omega)
  unfold egN edN
  generalize nlL q p = a at *
  generalize nlR q p (z - p) = b at *
  split
  · exact h2
  split
  · exact h1
  split
  · split <;> omega
  · split <;> omega
theorem egN_0 {q : Nat → Nat} {z p w : Nat} (hp : p < z) : egN q z p w = 0 ↔ ∀ k, k < z → q k = 0 := by
  have h1 := nlL_0 (q := q) (p := p)
  have h2 := nlR_0 (q := q) (p := p) (n := z - p)
  have h3 : egN q z p w = 0 ↔ nlL q p = 0 ∧ nlR q p (z - p) = 0 := by
    unfold egN edN
    generalize nlL q p = a at *
    generalize nlR q p (z - p) = b at *
    split
    · rename_i e; simp [e]
    · split
      · rename_i e1 e2; simp [e1]
      · split
        · split <;> omega
        · split <;> omega
  rw [h3, h1, h2]
  exact ⟨fun ⟨a, b⟩ k hk => by
    rcases Nat.lt_or_ge k p with e | e
    · exact a k (by omega)
    · exact b k e (by omega), fun h => ⟨fun k hk => h k (by omega), fun k _ hk => h k (by omega)⟩⟩
theorem pvE {n : Nat} (h : n ≤ 30001) : (pv n = -nI 1) = (n = 0) := by
  by_cases e : n = 0
  · subst e; exact propext ⟨fun _ => rfl, fun _ => rfl⟩
  · rw [pv_s e, ngE (by omega) (by decide) (by decide)]
    exact propext ⟨fun q => q.elim, fun q => absurd q e⟩
theorem pvL {n : Nat} (h : n ≤ 30001) : (pv n < nI 0) = (n = 0) := by
  by_cases e : n = 0
  · subst e
    exact propext ⟨fun _ => rfl, fun _ => (by decide)⟩
  · rw [pv_s e, nlt (by omega) (by decide)]
    exact propext ⟨fun q => by omega, fun q => absurd q e⟩
theorem s_lastN (d c z p : Nat) (s : Int32) (q : Nat → Nat) (I : mm_I) (h : CR I c s z q) (hz : z ≤ 24) (hp : p < z) (hq : qOk q) : Sn (d + 1) q_Counter_lastNumberUpTo [.inr (1, c), .inl (nI p)] I = some (some (.inl (pv (nlL q p))), (sh0, I)) := by
  obtain ⟨h1, h2, h3⟩ := h
  have k0 : Sn (d + 1) q_Counter_lastNumberUpTo [.inr (1, c), .inl (nI p)] I = Rn d q_Counter_lastNumberUpTo 1 [some (.inr (1, c)), some (.inl (nI p)), some (.inl (nI p))] [] I := by
    simp (disch := omega) only [n_Counter_lastNumberUpTo, e_Counter_lastNumberUpTo_0, lit, nad, nml, bd_s, ct_s, ct_n, a11, a01, aB2, bitA, nlt, nle, neq, dlT, dlF, deT, deF, dqT, dqF, nN, inb, nsb, ndv, nrm, if_true, if_false, ite_true, ite_false, true_and, and_true, and_self, and_false, false_and, or_true, true_or, or_false, false_or, or_self, ↓reduceIte, eq_self, Nat.reduceAdd, Nat.reduceMul, Nat.reduceSub, Nat.reduceDiv, Nat.reduceMod, Nat.zero_add, Nat.mul_zero, not_true_eq_false, not_false_eq_true, up_T, up_F, wr_T, wr_F, ngE, ngE', ngL, ngL', ngQ, ngQ', h2]
  rw [k0]
  have key : ∀ i, i < 24 → Rn d q_Counter_lastNumberUpTo 1 [some (.inr (1, c)), some (.inl (nI p)), some (.inl (nI i))] [] I = some (some (.inl (pv (nlL q i))), (sh0, I)) := by
    intro i
    induction i with
    | zero =>
      intro _
      have e := h3 0 (by decide)
      have hb := hq 0 (by decide)
      have pe := pvE hb
      by_cases w : q 0 = 0
      · simp (disch := omega) only [e_Counter_lastNumberUpTo_1, e_Counter_lastNumberUpTo_2, e_Counter_lastNumberUpTo_3, e_Counter_lastNumberUpTo_4, e_Counter_lastNumberUpTo_5, lit, nad, nml, bd_s, ct_s, ct_n, a11, a01, aB2, bitA, nlt, nle, neq, dlT, dlF, deT, deF, dqT, dqF, nN, inb, nsb, ndv, nrm, if_true, if_false, ite_true, ite_false, true_and, and_true, and_self, and_false, false_and, or_true, true_or, or_false, false_or, or_self, ↓reduceIte, eq_self, Nat.reduceAdd, Nat.reduceMul, Nat.reduceSub, Nat.reduceDiv, Nat.reduceMod, Nat.zero_add, Nat.mul_zero, not_true_eq_false, not_false_eq_true, up_T, up_F, wr_T, wr_F, ngE, ngE', ngL, ngL', ngQ, ngQ', e, pe, n0n, nlL]
        rw [w]; rfl
      · simp (disch := omega) only [e_Counter_lastNumberUpTo_1, e_Counter_lastNumberUpTo_2, e_Counter_lastNumberUpTo_3, e_Counter_lastNumberUpTo_4, e_Counter_lastNumberUpTo_5, lit, nad, nml, bd_s, ct_s, ct_n, a11, a01, aB2, bitA, nlt, nle, neq, dlT, dlF, deT, deF, dqT, dqF, nN, inb, nsb, ndv, nrm, if_true, if_false, ite_true, ite_false, true_and, and_true, and_self, and_false, false_and, or_true, true_or, or_false, false_or, or_self, ↓reduceIte, eq_self, Nat.reduceAdd, Nat.reduceMul, Nat.reduceSub, Nat.reduceDiv, Nat.reduceMod, Nat.zero_add, Nat.mul_zero, not_true_eq_false, not_false_eq_true, up_T, up_F, wr_T, wr_F, ngE, ngE', ngL, ngL', ngQ, ngQ', e, pe, nlL]
    | succ i ih =>
      intro hi
      have e := h3 (i + 1) hi
      have hb := hq (i + 1) hi
      have pe := pvE hb
      rw [nlL]
      by_cases w : q (i + 1) = 0
      · rw [if_pos w, ← ih (by omega)]
        simp (disch := omega) only [e_Counter_lastNumberUpTo_1 (x2 := nI (i + 1)), e_Counter_lastNumberUpTo_2, e_Counter_lastNumberUpTo_3, e_Counter_lastNumberUpTo_4, lit, nad, nml, bd_s, ct_s, ct_n, a11, a01, aB2, bitA, nlt, nle, neq, dlT, dlF, deT, deF, dqT, dqF, nN, inb, nsb, ndv, nrm, if_true, if_false, ite_true, ite_false, true_and, and_true, and_self, and_false, false_and, or_true, true_or, or_false, false_or, or_self, ↓reduceIte, eq_self, Nat.reduceAdd, Nat.reduceMul, Nat.reduceSub, Nat.reduceDiv, Nat.reduceMod, Nat.zero_add, Nat.mul_zero, not_true_eq_false, not_false_eq_true, up_T, up_F, wr_T, wr_F, ngE, ngE', ngL, ngL', ngQ, ngQ', e, pe, nmn, Nat.add_sub_cancel]
      · rw [if_neg w]
        simp (disch := omega) only [e_Counter_lastNumberUpTo_1, e_Counter_lastNumberUpTo_2, e_Counter_lastNumberUpTo_3, e_Counter_lastNumberUpTo_4, e_Counter_lastNumberUpTo_5, lit, nad, nml, bd_s, ct_s, ct_n, a11, a01, aB2, bitA, nlt, nle, neq, dlT, dlF, deT, deF, dqT, dqF, nN, inb, nsb, ndv, nrm, if_true, if_false, ite_true, ite_false, true_and, and_true, and_self, and_false, false_and, or_true, true_or, or_false, false_or, or_self, ↓reduceIte, eq_self, Nat.reduceAdd, Nat.reduceMul, Nat.reduceSub, Nat.reduceDiv, Nat.reduceMod, Nat.zero_add, Nat.mul_zero, not_true_eq_false, not_false_eq_true, up_T, up_F, wr_T, wr_F, ngE, ngE', ngL, ngL', ngQ, ngQ', e, pe]
  exact key p (by omega)
theorem s_firstN (d c z p : Nat) (s : Int32) (q : Nat → Nat) (I : mm_I) (h : CR I c s z q) (hz : z ≤ 24) (hp : p < z) (hq : qOk q) : Sn (d + 1) q_Counter_firstNumberFrom [.inr (1, c), .inl (nI p)] I = some (some (.inl (pv (nlR q p (z - p)))), (sh0, I)) := by
  obtain ⟨h1, h2, h3⟩ := h
  have k0 : Sn (d + 1) q_Counter_firstNumberFrom [.inr (1, c), .inl (nI p)] I = Rn d q_Counter_firstNumberFrom 1 [some (.inr (1, c)), some (.inl (nI p)), some (.inl (nI p))] [] I := by
    by_cases e : p = 0
    · subst e; simp (disch := omega) only [n_Counter_firstNumberFrom, e_Counter_firstNumberFrom_0, lit, nad, nml, bd_s, ct_s, ct_n, a11, a01, aB2, bitA, nlt, nle, neq, dlT, dlF, deT, deF, dqT, dqF, nN, inb, nsb, ndv, nrm, if_true, if_false, ite_true, ite_false, true_and, and_true, and_self, and_false, false_and, or_true, true_or, or_false, false_or, or_self, ↓reduceIte, eq_self, Nat.reduceAdd, Nat.reduceMul, Nat.reduceSub, Nat.reduceDiv, Nat.reduceMod, Nat.zero_add, Nat.mul_zero, not_true_eq_false, not_false_eq_true, up_T, up_F, wr_T, wr_F, ngE, ngE', ngL, ngL', ngQ, ngQ', h2]
    · simp (disch := omega) only [n_Counter_firstNumberFrom, e_Counter_firstNumberFrom_0, lit, nad, nml, bd_s, ct_s, ct_n, a11, a01, aB2, bitA, nlt, nle, neq, dlT, dlF, deT, deF, dqT, dqF, nN, inb, nsb, ndv, nrm, if_true, if_false, ite_true, ite_false, true_and, and_true, and_self, and_false, false_and, or_true, true_or, or_false, false_or, or_self, ↓reduceIte, eq_self, Nat.reduceAdd, Nat.reduceMul, Nat.reduceSub, Nat.reduceDiv, Nat.reduceMod, Nat.zero_add, Nat.mul_zero, not_true_eq_false, not_false_eq_true, up_T, up_F, wr_T, wr_F, ngE, ngE', ngL, ngL', ngQ, ngQ', h2]
  rw [k0]
  have key : ∀ n i, i + n = z → Rn d q_Counter_firstNumberFrom 1 [some (.inr (1, c)), some (.inl (nI p)), some (.inl (nI i))] [] I = some (some (.inl (pv (nlR q i n))), (sh0, I)) := by
    intro n
    induction n with
    | zero =>
      intro i hi
      simp (disch := omega) only [e_Counter_firstNumberFrom_1, e_Counter_firstNumberFrom_5, lit, nad, nml, bd_s, ct_s, ct_n, a11, a01, aB2, bitA, nlt, nle, neq, dlT, dlF, deT, deF, dqT, dqF, nN, inb, nsb, ndv, nrm, if_true, if_false, ite_true, ite_false, true_and, and_true, and_self, and_false, false_and, or_true, true_or, or_false, false_or, or_self, ↓reduceIte, eq_self, Nat.reduceAdd, Nat.reduceMul, Nat.reduceSub, Nat.reduceDiv, Nat.reduceMod, Nat.zero_add, Nat.mul_zero, not_true_eq_false, not_false_eq_true, up_T, up_F, wr_T, wr_F, ngE, ngE', ngL, ngL', ngQ, ngQ', h2, nlR, pv_0]
    | succ n ih =>
      intro i hi
      have e := h3 i (by omega)
      have hb := hq i (by omega)
      have pe := pvE hb
      rw [nlR]
      by_cases w : q i = 0
      · rw [if_pos w, ← ih (i + 1) (by omega)]
        simp (disch := omega) only [e_Counter_firstNumberFrom_1 (x2 := nI i), e_Counter_firstNumberFrom_2, e_Counter_firstNumberFrom_3, e_Counter_firstNumberFrom_4, lit, nad, nml, bd_s, ct_s, ct_n, a11, a01, aB2, bitA, nlt, nle, neq, dlT, dlF, deT, deF, dqT, dqF, nN, inb, nsb, ndv, nrm, if_true, if_false, ite_true, ite_false, true_and, and_true, and_self, and_false, false_and, or_true, true_or, or_false, false_or, or_self, ↓reduceIte, eq_self, Nat.reduceAdd, Nat.reduceMul, Nat.reduceSub, Nat.reduceDiv, Nat.reduceMod, Nat.zero_add, Nat.mul_zero, not_true_eq_false, not_false_eq_true, up_T, up_F, wr_T, wr_F, ngE, ngE', ngL, ngL', ngQ, ngQ', h2, e, pe]
      · rw [if_neg w]
        simp (disch := omega) only [e_Counter_firstNumberFrom_1, e_Counter_firstNumberFrom_2, e_Counter_firstNumberFrom_3, e_Counter_firstNumberFrom_4, e_Counter_firstNumberFrom_5, lit, nad, nml, bd_s, ct_s, ct_n, a11, a01, aB2, bitA, nlt, nle, neq, dlT, dlF, deT, deF, dqT, dqF, nN, inb, nsb, ndv, nrm, if_true, if_false, ite_true, ite_false, true_and, and_true, and_self, and_false, false_and, or_true, true_or, or_false, false_or, or_self, ↓reduceIte, eq_self, Nat.reduceAdd, Nat.reduceMul, Nat.reduceSub, Nat.reduceDiv, Nat.reduceMod, Nat.zero_add, Nat.mul_zero, not_true_eq_false, not_false_eq_true, up_T, up_F, wr_T, wr_F, ngE, ngE', ngL, ngL', ngQ, ngQ', h2, e, pe]
  exact key (z - p) p (by omega)
theorem s_edgeOfSpan (d c z p w : Nat) (s : Int32) (q : Nat → Nat) (I : mm_I) (h : CR I c s z q) (hz : z ≤ 24) (hp : p < z) (hq : qOk q) (hw : w ≤ 1) : Sn (d + 2) q_Counter_edgeOfSpan [.inr (1, c), .inl (nI p), .inl (nI w)] I = some (some (.inl (pv (egN q z p w))), (sh0, I)) := by
  have l := s_lastN d c z p s q I h hz hp hq
  have r := s_firstN d c z p s q I h hz hp hq
  have b1 := nlL_b hq p (by omega)
  have b2 := nlR_b hq (z - p) p (by omega)
  unfold egN edN
  generalize nlL q p = a at *
  generalize nlR q p (z - p) = b at *
  have p1 := pvE b1
  have p2 := pvE b2
  by_cases e1 : a = 0
  · simp (disch := omega) only [n_Counter_edgeOfSpan, e_Counter_edgeOfSpan_0, e_Counter_edgeOfSpan_1, e_Counter_edgeOfSpan_2, e_Counter_edgeOfSpan_3, e_Counter_edgeOfSpan_4, e_Counter_edgeOfSpan_5, e_Counter_edgeOfSpan_6, e_Counter_edgeOfSpan_7, e_Counter_edgeOfSpan_8, e_Counter_edgeOfSpan_9, lit, nad, nml, bd_s, ct_s, ct_n, a11, a01, aB2, bitA, nlt, nle, neq, dlT, dlF, deT, deF, dqT, dqF, nN, inb, nsb, ndv, nrm, if_true, if_false, ite_true, ite_false, true_and, and_true, and_self, and_false, false_and, or_true, true_or, or_false, false_or, or_self, ↓reduceIte, eq_self, Nat.reduceAdd, Nat.reduceMul, Nat.reduceSub, Nat.reduceDiv, Nat.reduceMod, Nat.zero_add, Nat.mul_zero, not_true_eq_false, not_false_eq_true, up_T, up_F, wr_T, wr_F, ngE, ngE', ngL, ngL', ngQ, ngQ', l, r, p1, p2]
  · by_cases e2 : b = 0
    · simp (disch := omega) only [n_Counter_edgeOfSpan, e_Counter_edgeOfSpan_0, e_Counter_edgeOfSpan_1, e_Counter_edgeOfSpan_2, e_Counter_edgeOfSpan_3, e_Counter_edgeOfSpan_4, e_Counter_edgeOfSpan_5, e_Counter_edgeOfSpan_6, e_Counter_edgeOfSpan_7, e_Counter_edgeOfSpan_8, e_Counter_edgeOfSpan_9, lit, nad, nml, bd_s, ct_s, ct_n, a11, a01, aB2, bitA, nlt, nle, neq, dlT, dlF, deT, deF, dqT, dqF, nN, inb, nsb, ndv, nrm, if_true, if_false, ite_true, ite_false, true_and, and_true, and_self, and_false, false_and, or_true, true_or, or_false, false_or, or_self, ↓reduceIte, eq_self, Nat.reduceAdd, Nat.reduceMul, Nat.reduceSub, Nat.reduceDiv, Nat.reduceMod, Nat.zero_add, Nat.mul_zero, not_true_eq_false, not_false_eq_true, up_T, up_F, wr_T, wr_F, ngE, ngE', ngL, ngL', ngQ, ngQ', l, r, p1, p2]
    · rw [pv_s e1] at l p1
      rw [pv_s e2] at r p2
      rcases (show w = 0 ∨ w = 1 by omega) with ew | ew <;> subst ew
      · by_cases e3 : b < a
        · simp (disch := omega) only [n_Counter_edgeOfSpan, e_Counter_edgeOfSpan_0, e_Counter_edgeOfSpan_1, e_Counter_edgeOfSpan_2, e_Counter_edgeOfSpan_3, e_Counter_edgeOfSpan_4, e_Counter_edgeOfSpan_5, e_Counter_edgeOfSpan_6, e_Counter_edgeOfSpan_7, e_Counter_edgeOfSpan_8, e_Counter_edgeOfSpan_9, lit, nad, nml, bd_s, ct_s, ct_n, a11, a01, aB2, bitA, nlt, nle, neq, dlT, dlF, deT, deF, dqT, dqF, nN, inb, nsb, ndv, nrm, if_true, if_false, ite_true, ite_false, true_and, and_true, and_self, and_false, false_and, or_true, true_or, or_false, false_or, or_self, ↓reduceIte, eq_self, Nat.reduceAdd, Nat.reduceMul, Nat.reduceSub, Nat.reduceDiv, Nat.reduceMod, Nat.zero_add, Nat.mul_zero, not_true_eq_false, not_false_eq_true, up_T, up_F, wr_T, wr_F, ngE, ngE', ngL, ngL', ngQ, ngQ', l, r, pv_s]
        · by_cases e4 : a = b
          · subst e4; simp (disch := omega) only [n_Counter_edgeOfSpan, e_Counter_edgeOfSpan_0, e_Counter_edgeOfSpan_1, e_Counter_edgeOfSpan_2, e_Counter_edgeOfSpan_3, e_Counter_edgeOfSpan_4, e_Counter_edgeOfSpan_5, e_Counter_edgeOfSpan_6, e_Counter_edgeOfSpan_7, e_Counter_edgeOfSpan_8, e_Counter_edgeOfSpan_9, lit, nad, nml, bd_s, ct_s, ct_n, a11, a01, aB2, bitA, nlt, nle, neq, dlT, dlF, deT, deF, dqT, dqF, nN, inb, nsb, ndv, nrm, if_true, if_false, ite_true, ite_false, true_and, and_true, and_self, and_false, false_and, or_true, true_or, or_false, false_or, or_self, ↓reduceIte, eq_self, Nat.reduceAdd, Nat.reduceMul, Nat.reduceSub, Nat.reduceDiv, Nat.reduceMod, Nat.zero_add, Nat.mul_zero, not_true_eq_false, not_false_eq_true, up_T, up_F, wr_T, wr_F, ngE, ngE', ngL, ngL', ngQ, ngQ', l, r, pv_s]
          · simp (disch := omega) only [n_Counter_edgeOfSpan, e_Counter_edgeOfSpan_0, e_Counter_edgeOfSpan_1, e_Counter_edgeOfSpan_2, e_Counter_edgeOfSpan_3, e_Counter_edgeOfSpan_4, e_Counter_edgeOfSpan_5, e_Counter_edgeOfSpan_6, e_Counter_edgeOfSpan_7, e_Counter_edgeOfSpan_8, e_Counter_edgeOfSpan_9, lit, nad, nml, bd_s, ct_s, ct_n, a11, a01, aB2, bitA, nlt, nle, neq, dlT, dlF, deT, deF, dqT, dqF, nN, inb, nsb, ndv, nrm, if_true, if_false, ite_true, ite_false, true_and, and_true, and_self, and_false, false_and, or_true, true_or, or_false, false_or, or_self, ↓reduceIte, eq_self, Nat.reduceAdd, Nat.reduceMul, Nat.reduceSub, Nat.reduceDiv, Nat.reduceMod, Nat.zero_add, Nat.mul_zero, not_true_eq_false, not_false_eq_true, up_T, up_F, wr_T, wr_F, ngE, ngE', ngL, ngL', ngQ, ngQ', l, r, pv_s]
      · by_cases e3 : a < b
        · simp (disch := omega) only [n_Counter_edgeOfSpan, e_Counter_edgeOfSpan_0, e_Counter_edgeOfSpan_1, e_Counter_edgeOfSpan_2, e_Counter_edgeOfSpan_3, e_Counter_edgeOfSpan_4, e_Counter_edgeOfSpan_5, e_Counter_edgeOfSpan_6, e_Counter_edgeOfSpan_7, e_Counter_edgeOfSpan_8, e_Counter_edgeOfSpan_9, lit, nad, nml, bd_s, ct_s, ct_n, a11, a01, aB2, bitA, nlt, nle, neq, dlT, dlF, deT, deF, dqT, dqF, nN, inb, nsb, ndv, nrm, if_true, if_false, ite_true, ite_false, true_and, and_true, and_self, and_false, false_and, or_true, true_or, or_false, false_or, or_self, ↓reduceIte, eq_self, Nat.reduceAdd, Nat.reduceMul, Nat.reduceSub, Nat.reduceDiv, Nat.reduceMod, Nat.zero_add, Nat.mul_zero, not_true_eq_false, not_false_eq_true, up_T, up_F, wr_T, wr_F, ngE, ngE', ngL, ngL', ngQ, ngQ', l, r, pv_s]
        · by_cases e4 : a = b
          · subst e4; simp (disch := omega) only [n_Counter_edgeOfSpan, e_Counter_edgeOfSpan_0, e_Counter_edgeOfSpan_1, e_Counter_edgeOfSpan_2, e_Counter_edgeOfSpan_3, e_Counter_edgeOfSpan_4, e_Counter_edgeOfSpan_5, e_Counter_edgeOfSpan_6, e_Counter_edgeOfSpan_7, e_Counter_edgeOfSpan_8, e_Counter_edgeOfSpan_9, lit, nad, nml, bd_s, ct_s, ct_n, a11, a01, aB2, bitA, nlt, nle, neq, dlT, dlF, deT, deF, dqT, dqF, nN, inb, nsb, ndv, nrm, if_true, if_false, ite_true, ite_false, true_and, and_true, and_self, and_false, false_and, or_true, true_or, or_false, false_or, or_self, ↓reduceIte, eq_self, Nat.reduceAdd, Nat.reduceMul, Nat.reduceSub, Nat.reduceDiv, Nat.reduceMod, Nat.zero_add, Nat.mul_zero, not_true_eq_false, not_false_eq_true, up_T, up_F, wr_T, wr_F, ngE, ngE', ngL, ngL', ngQ, ngQ', l, r, pv_s]
          · simp (disch := omega) only [n_Counter_edgeOfSpan, e_Counter_edgeOfSpan_0, e_Counter_edgeOfSpan_1, e_Counter_edgeOfSpan_2, e_Counter_edgeOfSpan_3, e_Counter_edgeOfSpan_4, e_Counter_edgeOfSpan_5, e_Counter_edgeOfSpan_6, e_Counter_edgeOfSpan_7, e_Counter_edgeOfSpan_8, e_Counter_edgeOfSpan_9, lit, nad, nml, bd_s, ct_s, ct_n, a11, a01, aB2, bitA, nlt, nle, neq, dlT, dlF, deT, deF, dqT, dqF, nN, inb, nsb, ndv, nrm, if_true, if_false, ite_true, ite_false, true_and, and_true, and_self, and_false, false_and, or_true, true_or, or_false, false_or, or_self, ↓reduceIte, eq_self, Nat.reduceAdd, Nat.reduceMul, Nat.reduceSub, Nat.reduceDiv, Nat.reduceMod, Nat.zero_add, Nat.mul_zero, not_true_eq_false, not_false_eq_true, up_T, up_F, wr_T, wr_F, ngE, ngE', ngL, ngL', ngQ, ngQ', l, r, pv_s]
theorem s_M_nearL (d c z p : Nat) (s : Int32) (q : Nat → Nat) (I : mm_I) (h : MR I c s z q) (hc : c < 9) (hz : z ≤ 24) (hp : p < z) (hq : qOk q) : Sn (d + 2) q_M_nearest [.inr (12, 0), .inl (nI c), .inl (nI p), .inl (-nI 1)] I = some (some (.inl (pv (nlL q p))), (sh0, I)) := by
  obtain ⟨h1, h2, h3⟩ := h
  have k0 : Sn (d + 2) q_M_nearest [.inr (12, 0), .inl (nI c), .inl (nI p), .inl (-nI 1)] I = Rn (d + 1) q_M_nearest 1 [some (.inr (12, 0)), some (.inl (nI c)), some (.inl (nI p)), some (.inl (-nI 1)), some (.inl (nI p))] [] I := by
    simp (disch := omega) only [n_M_nearest, e_M_nearest_0]
  rw [k0]
  have key : ∀ i, i < z → Rn (d + 1) q_M_nearest 1 [some (.inr (12, 0)), some (.inl (nI c)), some (.inl (nI p)), some (.inl (-nI 1)), some (.inl (nI i))] [] I = some (some (.inl (pv (nlL q i))), (sh0, I)) := by
    intro i
    induction i with
    | zero =>
      intro _
      have e := h3 0 (by decide)
      have pl := pvL (hq 0 (by decide))
      rw [Nat.add_zero] at e
      by_cases w : q 0 = 0
      · simp (disch := omega) only [e_M_nearest_1, e_M_nearest_2, e_M_nearest_3, e_M_nearest_4, e_M_nearest_5, e_M_nearest_6, e_M_nearest_7, e_M_nearest_8, e_M_nearest_9, s_M_in, lit, nad, nml, bd_s, ct_s, ct_n, a11, a01, aB2, bitA, nlt, nle, neq, dlT, dlF, deT, deF, dqT, dqF, nN, inb, nsb, ndv, nrm, if_true, if_false, ite_true, ite_false, true_and, and_true, and_self, and_false, false_and, or_true, true_or, or_false, false_or, or_self, ↓reduceIte, eq_self, Nat.reduceAdd, Nat.reduceMul, Nat.reduceSub, Nat.reduceDiv, Nat.reduceMod, Nat.zero_add, Nat.mul_zero, not_true_eq_false, not_false_eq_true, up_T, up_F, wr_T, wr_F, ngE, ngE', ngL, ngL', ngQ, ngQ', h2, wl, e, pl, n0n, nlL, Nat.add_zero]
        rw [w]; rfl
      · simp (disch := omega) only [e_M_nearest_1, e_M_nearest_2, e_M_nearest_3, e_M_nearest_4, e_M_nearest_5, e_M_nearest_6, e_M_nearest_7, e_M_nearest_8, e_M_nearest_9, s_M_in, lit, nad, nml, bd_s, ct_s, ct_n, a11, a01, aB2, bitA, nlt, nle, neq, dlT, dlF, deT, deF, dqT, dqF, nN, inb, nsb, ndv, nrm, if_true, if_false, ite_true, ite_false, true_and, and_true, and_self, and_false, false_and, or_true, true_or, or_false, false_or, or_self, ↓reduceIte, eq_self, Nat.reduceAdd, Nat.reduceMul, Nat.reduceSub, Nat.reduceDiv, Nat.reduceMod, Nat.zero_add, Nat.mul_zero, not_true_eq_false, not_false_eq_true, up_T, up_F, wr_T, wr_F, ngE, ngE', ngL, ngL', ngQ, ngQ', h2, wl, e, pl, nlL, Nat.add_zero]
    | succ i ih =>
      intro hi
      have e := h3 (i + 1) (by omega)
      have pl := pvL (hq (i + 1) (by omega))
      rw [nlL]
      by_cases w : q (i + 1) = 0
      · rw [if_pos w, ← ih (by omega)]
        simp (disch := omega) only [e_M_nearest_1 (x4 := nI (i + 1)), e_M_nearest_2, e_M_nearest_3, e_M_nearest_4, s_M_in, lit, nad, nml, bd_s, ct_s, ct_n, a11, a01, aB2, bitA, nlt, nle, neq, dlT, dlF, deT, deF, dqT, dqF, nN, inb, nsb, ndv, nrm, if_true, if_false, ite_true, ite_false, true_and, and_true, and_self, and_false, false_and, or_true, true_or, or_false, false_or, or_self, ↓reduceIte, eq_self, Nat.reduceAdd, Nat.reduceMul, Nat.reduceSub, Nat.reduceDiv, Nat.reduceMod, Nat.zero_add, Nat.mul_zero, not_true_eq_false, not_false_eq_true, up_T, up_F, wr_T, wr_F, ngE, ngE', ngL, ngL', ngQ, ngQ', h2, wl, e, pl, nmn, Nat.add_sub_cancel]
      · rw [if_neg w]
        simp (disch := omega) only [e_M_nearest_1, e_M_nearest_2, e_M_nearest_3, e_M_nearest_4, e_M_nearest_5, e_M_nearest_6, e_M_nearest_7, e_M_nearest_8, e_M_nearest_9, s_M_in, lit, nad, nml, bd_s, ct_s, ct_n, a11, a01, aB2, bitA, nlt, nle, neq, dlT, dlF, deT, deF, dqT, dqF, nN, inb, nsb, ndv, nrm, if_true, if_false, ite_true, ite_false, true_and, and_true, and_self, and_false, false_and, or_true, true_or, or_false, false_or, or_self, ↓reduceIte, eq_self, Nat.reduceAdd, Nat.reduceMul, Nat.reduceSub, Nat.reduceDiv, Nat.reduceMod, Nat.zero_add, Nat.mul_zero, not_true_eq_false, not_false_eq_true, up_T, up_F, wr_T, wr_F, ngE, ngE', ngL, ngL', ngQ, ngQ', h2, wl, e, pl]
  exact key p hp
theorem s_M_nearR (d c z p : Nat) (s : Int32) (q : Nat → Nat) (I : mm_I) (h : MR I c s z q) (hc : c < 9) (hz : z ≤ 24) (hp : p < z) (hq : qOk q) : Sn (d + 2) q_M_nearest [.inr (12, 0), .inl (nI c), .inl (nI p), .inl (nI 1)] I = some (some (.inl (pv (nlR q p (z - p)))), (sh0, I)) := by
  obtain ⟨h1, h2, h3⟩ := h
  have k0 : Sn (d + 2) q_M_nearest [.inr (12, 0), .inl (nI c), .inl (nI p), .inl (nI 1)] I = Rn (d + 1) q_M_nearest 1 [some (.inr (12, 0)), some (.inl (nI c)), some (.inl (nI p)), some (.inl (nI 1)), some (.inl (nI p))] [] I := by
    simp (disch := omega) only [n_M_nearest, e_M_nearest_0]
  rw [k0]
  have key : ∀ n i, i + n = z → Rn (d + 1) q_M_nearest 1 [some (.inr (12, 0)), some (.inl (nI c)), some (.inl (nI p)), some (.inl (nI 1)), some (.inl (nI i))] [] I = some (some (.inl (pv (nlR q i n))), (sh0, I)) := by
    intro n
    induction n with
    | zero =>
      intro i hi
      have hw := wl (j := i) (n := z) (by omega) (by omega)
      simp (disch := omega) only [e_M_nearest_1, e_M_nearest_2, e_M_nearest_5, e_M_nearest_6, e_M_nearest_8, e_M_nearest_9, s_M_in, lit, nad, nml, bd_s, ct_s, ct_n, a11, a01, aB2, bitA, nlt, nle, neq, dlT, dlF, deT, deF, dqT, dqF, nN, inb, nsb, ndv, nrm, if_true, if_false, ite_true, ite_false, true_and, and_true, and_self, and_false, false_and, or_true, true_or, or_false, false_or, or_self, ↓reduceIte, eq_self, Nat.reduceAdd, Nat.reduceMul, Nat.reduceSub, Nat.reduceDiv, Nat.reduceMod, Nat.zero_add, Nat.mul_zero, not_true_eq_false, not_false_eq_true, up_T, up_F, wr_T, wr_F, ngE, ngE', ngL, ngL', ngQ, ngQ', h2, hw, nlR, pv_0]
    | succ n ih =>
      intro i hi
      have e := h3 i (by omega)
      have pl := pvL (hq i (by omega))
      rw [nlR]
      by_cases w : q i = 0
      · rw [if_pos w, ← ih (i + 1) (by omega)]
        simp (disch := omega) only [e_M_nearest_1 (x4 := nI i), e_M_nearest_2, e_M_nearest_3, e_M_nearest_4, s_M_in, lit, nad, nml, bd_s, ct_s, ct_n, a11, a01, aB2, bitA, nlt, nle, neq, dlT, dlF, deT, deF, dqT, dqF, nN, inb, nsb, ndv, nrm, if_true, if_false, ite_true, ite_false, true_and, and_true, and_self, and_false, false_and, or_true, true_or, or_false, false_or, or_self, ↓reduceIte, eq_self, Nat.reduceAdd, Nat.reduceMul, Nat.reduceSub, Nat.reduceDiv, Nat.reduceMod, Nat.zero_add, Nat.mul_zero, not_true_eq_false, not_false_eq_true, up_T, up_F, wr_T, wr_F, ngE, ngE', ngL, ngL', ngQ, ngQ', h2, wl, e, pl]
      · rw [if_neg w]
        simp (disch := omega) only [e_M_nearest_1, e_M_nearest_2, e_M_nearest_3, e_M_nearest_4, e_M_nearest_5, e_M_nearest_6, e_M_nearest_7, e_M_nearest_8, e_M_nearest_9, s_M_in, lit, nad, nml, bd_s, ct_s, ct_n, a11, a01, aB2, bitA, nlt, nle, neq, dlT, dlF, deT, deF, dqT, dqF, nN, inb, nsb, ndv, nrm, if_true, if_false, ite_true, ite_false, true_and, and_true, and_self, and_false, false_and, or_true, true_or, or_false, false_or, or_self, ↓reduceIte, eq_self, Nat.reduceAdd, Nat.reduceMul, Nat.reduceSub, Nat.reduceDiv, Nat.reduceMod, Nat.zero_add, Nat.mul_zero, not_true_eq_false, not_false_eq_true, up_T, up_F, wr_T, wr_F, ngE, ngE', ngL, ngL', ngQ, ngQ', h2, wl, e, pl]
  exact key (z - p) p (by omega)
theorem s_M_edge (d c z p w : Nat) (s : Int32) (q : Nat → Nat) (I : mm_I) (h : MR I c s z q) (hc : c < 9) (hz : z ≤ 24) (hp : p < z) (hq : qOk q) (hw : w ≤ 1) : Sn (d + 3) q_M_edge [.inr (12, 0), .inl (nI c), .inl (nI p), .inl (nI w)] I = some (some (.inl (pv (egN q z p w))), (sh0, I)) := by
  have l := s_M_nearL d c z p s q I h hc hz hp hq
  have r := s_M_nearR d c z p s q I h hc hz hp hq
  have b1 := nlL_b hq p (by omega)
  have b2 := nlR_b hq (z - p) p (by omega)
  unfold egN edN
  generalize nlL q p = a at *
  generalize nlR q p (z - p) = b at *
  by_cases e1 : a = 0
  · subst e1
    rw [pv_0] at l
    by_cases e2 : b = 0
    · subst e2
      rw [pv_0] at r
      simp (disch := omega) only [n_M_edge, e_M_edge_0, e_M_edge_1, e_M_edge_2, e_M_edge_3, e_M_edge_4, e_M_edge_5, e_M_edge_6, e_M_edge_7, e_M_edge_8, e_M_edge_9, e_M_edge_10, lit, nad, nml, bd_s, ct_s, ct_n, a11, a01, aB2, bitA, nlt, nle, neq, dlT, dlF, deT, deF, dqT, dqF, nN, inb, nsb, ndv, nrm, if_true, if_false, ite_true, ite_false, true_and, and_true, and_self, and_false, false_and, or_true, true_or, or_false, false_or, or_self, ↓reduceIte, eq_self, Nat.reduceAdd, Nat.reduceMul, Nat.reduceSub, Nat.reduceDiv, Nat.reduceMod, Nat.zero_add, Nat.mul_zero, not_true_eq_false, not_false_eq_true, up_T, up_F, wr_T, wr_F, ngE, ngE', ngL, ngL', ngQ, ngQ', l, r, s_M_greater, pv_0, ite_self]
    · rw [pv_s e2] at r
      simp (disch := omega) only [n_M_edge, e_M_edge_0, e_M_edge_1, e_M_edge_2, e_M_edge_3, e_M_edge_4, e_M_edge_5, e_M_edge_6, e_M_edge_7, e_M_edge_8, e_M_edge_9, e_M_edge_10, lit, nad, nml, bd_s, ct_s, ct_n, a11, a01, aB2, bitA, nlt, nle, neq, dlT, dlF, deT, deF, dqT, dqF, nN, inb, nsb, ndv, nrm, if_true, if_false, ite_true, ite_false, true_and, and_true, and_self, and_false, false_and, or_true, true_or, or_false, false_or, or_self, ↓reduceIte, eq_self, Nat.reduceAdd, Nat.reduceMul, Nat.reduceSub, Nat.reduceDiv, Nat.reduceMod, Nat.zero_add, Nat.mul_zero, not_true_eq_false, not_false_eq_true, up_T, up_F, wr_T, wr_F, ngE, ngE', ngL, ngL', ngQ, ngQ', l, r, s_M_greater, pv_s]
  · rw [pv_s e1] at l
    by_cases e2 : b = 0
    · subst e2
      rw [pv_0] at r
      simp (disch := omega) only [n_M_edge, e_M_edge_0, e_M_edge_1, e_M_edge_2, e_M_edge_3, e_M_edge_4, e_M_edge_5, e_M_edge_6, e_M_edge_7, e_M_edge_8, e_M_edge_9, e_M_edge_10, lit, nad, nml, bd_s, ct_s, ct_n, a11, a01, aB2, bitA, nlt, nle, neq, dlT, dlF, deT, deF, dqT, dqF, nN, inb, nsb, ndv, nrm, if_true, if_false, ite_true, ite_false, true_and, and_true, and_self, and_false, false_and, or_true, true_or, or_false, false_or, or_self, ↓reduceIte, eq_self, Nat.reduceAdd, Nat.reduceMul, Nat.reduceSub, Nat.reduceDiv, Nat.reduceMod, Nat.zero_add, Nat.mul_zero, not_true_eq_false, not_false_eq_true, up_T, up_F, wr_T, wr_F, ngE, ngE', ngL, ngL', ngQ, ngQ', l, r, s_M_greater, pv_s]
    · rw [pv_s e2] at r
      rcases (show w = 0 ∨ w = 1 by omega) with ew | ew <;> subst ew
      · by_cases e3 : b < a
        · simp (disch := omega) only [n_M_edge, e_M_edge_0, e_M_edge_1, e_M_edge_2, e_M_edge_3, e_M_edge_4, e_M_edge_5, e_M_edge_6, e_M_edge_7, e_M_edge_8, e_M_edge_9, e_M_edge_10, lit, nad, nml, bd_s, ct_s, ct_n, a11, a01, aB2, bitA, nlt, nle, neq, dlT, dlF, deT, deF, dqT, dqF, nN, inb, nsb, ndv, nrm, if_true, if_false, ite_true, ite_false, true_and, and_true, and_self, and_false, false_and, or_true, true_or, or_false, false_or, or_self, ↓reduceIte, eq_self, Nat.reduceAdd, Nat.reduceMul, Nat.reduceSub, Nat.reduceDiv, Nat.reduceMod, Nat.zero_add, Nat.mul_zero, not_true_eq_false, not_false_eq_true, up_T, up_F, wr_T, wr_F, ngE, ngE', ngL, ngL', ngQ, ngQ', l, r, s_M_lesser, pv_s]
        · by_cases e4 : a = b
          · subst e4; simp (disch := omega) only [n_M_edge, e_M_edge_0, e_M_edge_1, e_M_edge_2, e_M_edge_3, e_M_edge_4, e_M_edge_5, e_M_edge_6, e_M_edge_7, e_M_edge_8, e_M_edge_9, e_M_edge_10, lit, nad, nml, bd_s, ct_s, ct_n, a11, a01, aB2, bitA, nlt, nle, neq, dlT, dlF, deT, deF, dqT, dqF, nN, inb, nsb, ndv, nrm, if_true, if_false, ite_true, ite_false, true_and, and_true, and_self, and_false, false_and, or_true, true_or, or_false, false_or, or_self, ↓reduceIte, eq_self, Nat.reduceAdd, Nat.reduceMul, Nat.reduceSub, Nat.reduceDiv, Nat.reduceMod, Nat.zero_add, Nat.mul_zero, not_true_eq_false, not_false_eq_true, up_T, up_F, wr_T, wr_F, ngE, ngE', ngL, ngL', ngQ, ngQ', l, r, s_M_lesser, pv_s]
          · simp (disch := omega) only [n_M_edge, e_M_edge_0, e_M_edge_1, e_M_edge_2, e_M_edge_3, e_M_edge_4, e_M_edge_5, e_M_edge_6, e_M_edge_7, e_M_edge_8, e_M_edge_9, e_M_edge_10, lit, nad, nml, bd_s, ct_s, ct_n, a11, a01, aB2, bitA, nlt, nle, neq, dlT, dlF, deT, deF, dqT, dqF, nN, inb, nsb, ndv, nrm, if_true, if_false, ite_true, ite_false, true_and, and_true, and_self, and_false, false_and, or_true, true_or, or_false, false_or, or_self, ↓reduceIte, eq_self, Nat.reduceAdd, Nat.reduceMul, Nat.reduceSub, Nat.reduceDiv, Nat.reduceMod, Nat.zero_add, Nat.mul_zero, not_true_eq_false, not_false_eq_true, up_T, up_F, wr_T, wr_F, ngE, ngE', ngL, ngL', ngQ, ngQ', l, r, s_M_lesser, pv_s]
      · by_cases e3 : a < b
        · simp (disch := omega) only [n_M_edge, e_M_edge_0, e_M_edge_1, e_M_edge_2, e_M_edge_3, e_M_edge_4, e_M_edge_5, e_M_edge_6, e_M_edge_7, e_M_edge_8, e_M_edge_9, e_M_edge_10, lit, nad, nml, bd_s, ct_s, ct_n, a11, a01, aB2, bitA, nlt, nle, neq, dlT, dlF, deT, deF, dqT, dqF, nN, inb, nsb, ndv, nrm, if_true, if_false, ite_true, ite_false, true_and, and_true, and_self, and_false, false_and, or_true, true_or, or_false, false_or, or_self, ↓reduceIte, eq_self, Nat.reduceAdd, Nat.reduceMul, Nat.reduceSub, Nat.reduceDiv, Nat.reduceMod, Nat.zero_add, Nat.mul_zero, not_true_eq_false, not_false_eq_true, up_T, up_F, wr_T, wr_F, ngE, ngE', ngL, ngL', ngQ, ngQ', l, r, s_M_greater, pv_s]
        · by_cases e4 : a = b
          · subst e4; simp (disch := omega) only [n_M_edge, e_M_edge_0, e_M_edge_1, e_M_edge_2, e_M_edge_3, e_M_edge_4, e_M_edge_5, e_M_edge_6, e_M_edge_7, e_M_edge_8, e_M_edge_9, e_M_edge_10, lit, nad, nml, bd_s, ct_s, ct_n, a11, a01, aB2, bitA, nlt, nle, neq, dlT, dlF, deT, deF, dqT, dqF, nN, inb, nsb, ndv, nrm, if_true, if_false, ite_true, ite_false, true_and, and_true, and_self, and_false, false_and, or_true, true_or, or_false, false_or, or_self, ↓reduceIte, eq_self, Nat.reduceAdd, Nat.reduceMul, Nat.reduceSub, Nat.reduceDiv, Nat.reduceMod, Nat.zero_add, Nat.mul_zero, not_true_eq_false, not_false_eq_true, up_T, up_F, wr_T, wr_F, ngE, ngE', ngL, ngL', ngQ, ngQ', l, r, s_M_greater, pv_s]
          · simp (disch := omega) only [n_M_edge, e_M_edge_0, e_M_edge_1, e_M_edge_2, e_M_edge_3, e_M_edge_4, e_M_edge_5, e_M_edge_6, e_M_edge_7, e_M_edge_8, e_M_edge_9, e_M_edge_10, lit, nad, nml, bd_s, ct_s, ct_n, a11, a01, aB2, bitA, nlt, nle, neq, dlT, dlF, deT, deF, dqT, dqF, nN, inb, nsb, ndv, nrm, if_true, if_false, ite_true, ite_false, true_and, and_true, and_self, and_false, false_and, or_true, true_or, or_false, false_or, or_self, ↓reduceIte, eq_self, Nat.reduceAdd, Nat.reduceMul, Nat.reduceSub, Nat.reduceDiv, Nat.reduceMod, Nat.zero_add, Nat.mul_zero, not_true_eq_false, not_false_eq_true, up_T, up_F, wr_T, wr_F, ngE, ngE', ngL, ngL', ngQ, ngQ', l, r, s_M_greater, pv_s]
