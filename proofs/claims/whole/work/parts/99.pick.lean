/-! The roster of the class. -/
def hpN (gv : Nat → Nat → Nat) (w n j : Nat) : Nat := sm (fun i => gv (w + i) j) n
def enc (x : Nat) : Int32 := if x = 0 then -nI 1000000005 else nI (x - 1)
def RMc (J : Nat) (nd : Nat → Nat) (gv : Nat → Nat → Nat) (I : mm_I) : Prop := I 6 0 6 = nI J ∧ (∀ j, j < J → I 33 0 j = nI (nd j)) ∧ (∀ w j, w < 6 → j < J → I 31 0 (w * 4 + j) = nI (gv w j)) ∧ ∀ w j, w ≤ 6 → j < J → I 32 0 (w * 4 + j) = nI (hpN gv w (6 - w) j)
def HMc (J : Nat) (h : Nat → Nat) (I : mm_I) : Prop := ∀ j, j < J → I 34 0 j = nI (h j)
def BMc : BS → mm_I → Prop
  | none, I => I 6 0 7 = -nI 1 ∧ I 6 0 8 = nI 0
  | some (m, d, q), I => I 6 0 7 = nI m ∧ I 6 0 8 = nI d ∧ m ≤ 4 ∧ d ≤ 1000 ∧ ∀ i, i < 6 → I 36 0 i = enc (q i)
theorem RMc_e {J : Nat} {nd : Nat → Nat} {gv : Nat → Nat → Nat} {I I' : mm_I} (h : RMc J nd gv I) (e : eqo [6, 34, 35, 36] I I') (e6 : I' 6 0 6 = I 6 0 6) : RMc J nd gv I' := by
  unfold RMc
  rw [e6, e 33 (by decide), e 31 (by decide), e 32 (by decide)]
  exact h
theorem mt_s (nd h : Nat → Nat) (j : Nat) : mtN nd h (j + 1) = mtN nd h j + if nd j ≤ h j then 1 else 0 := rfl
theorem dy_s (nd h : Nat → Nat) (j : Nat) : dyN nd h (j + 1) = dyN nd h j + if h j ≤ nd j then h j else nd j := rfl
theorem mt_b (nd h : Nat → Nat) (j : Nat) : mtN nd h j ≤ 1 * j := sm_le (fun i _ => by split <;> omega)
theorem dy_b {nd h : Nat → Nat} {J : Nat} (hn : ∀ j, j < J → nd j ≤ 60) : ∀ j, j ≤ J → dyN nd h j ≤ 60 * j := fun j hj => sm_le (fun i hi => by have := hn i (by omega); split <;> omega)
theorem s_mayBe (d w J : Nat) (nd h : Nat → Nat) (gv : Nat → Nat → Nat) (s : BS) (I : mm_I) (hR : RMc J nd gv I) (hH : HMc J h I) (hB : BMc s I) (hJ : J ≤ 4) (hw : w ≤ 6) (hn : ∀ j, j < J → nd j ≤ 60) (hb : ∀ j, j < J → h j + hpN gv w (6 - w) j ≤ 120) : Sn (d + 1) q_Roster_mayBeBetter [.inr (6, 0), .inl (nI w)] I = some (some (.inl (nI (b2 (bet (mtN nd (fun j => h j + hpN gv w (6 - w) j) J) (dyN nd (fun j => h j + hpN gv w (6 - w) j) J) s)))), (sh0, I)) := by
  obtain ⟨r1, r2, r3, r4⟩ := hR
  rw [n_Roster_mayBeBetter, e_Roster_mayBeBetter_0]
  refine lpX (n := J) (σ := Option mm_V) (fun j v => Rn d q_Roster_mayBeBetter 1 [some (.inr (6, 0)), some (.inl (nI w)), some (.inl (nI (mtN nd (fun j => h j + hpN gv w (6 - w) j) j))), some (.inl (nI (dyN nd (fun j => h j + hpN gv w (6 - w) j) j))), some (.inl (nI j)), v] [] I) (fun _ _ => True) (fun r => r = _) (fun j v hj _ => Or.inr ⟨some (.inl (nI (h j + hpN gv w (6 - w) j))), trivial, ?_⟩) (fun v _ => ?_) 0 none (Nat.zero_le _) trivial
  · have l1 := r2 j hj
    have l2 := r4 w j hw hj
    have l3 := hH j hj
    have b1 := hb j hj
    have b2' := hn j hj
    have b3 := mt_b nd (fun j => h j + hpN gv w (6 - w) j) j
    have b4 := dy_b (h := fun j => h j + hpN gv w (6 - w) j) hn j (by omega)
    rw [mt_s, dy_s]
    by_cases c1 : nd j ≤ h j + hpN gv w (6 - w) j
    · by_cases c2 : h j + hpN gv w (6 - w) j ≤ nd j
      · simp (disch := omega) only [e_Roster_mayBeBetter_2, e_Roster_mayBeBetter_3, e_Roster_mayBeBetter_4, e_Roster_mayBeBetter_1 (x4 := nI j), lit, nad, nml, bd_s, ct_s, ct_n, a11, a01, aB2, bitA, nlt, nle, neq, dlT, dlF, deT, deF, dqT, dqF, nN, inb, nsb, ndv, nrm, if_true, if_false, ite_true, ite_false, true_and, and_true, and_self, and_false, false_and, or_true, true_or, or_false, false_or, or_self, ↓reduceIte, eq_self, Nat.reduceAdd, Nat.reduceMul, Nat.reduceSub, Nat.reduceDiv, Nat.reduceMod, Nat.zero_add, Nat.mul_zero, not_true_eq_false, not_false_eq_true, up_T, up_F, wr_T, wr_F, ngE, ngE', ngL, ngL', ngQ, ngQ', r1, l1, l2, l3, if_pos c1, if_pos c2]
      · simp (disch := omega) only [e_Roster_mayBeBetter_2, e_Roster_mayBeBetter_3, e_Roster_mayBeBetter_4, e_Roster_mayBeBetter_1 (x4 := nI j), lit, nad, nml, bd_s, ct_s, ct_n, a11, a01, aB2, bitA, nlt, nle, neq, dlT, dlF, deT, deF, dqT, dqF, nN, inb, nsb, ndv, nrm, if_true, if_false, ite_true, ite_false, true_and, and_true, and_self, and_false, false_and, or_true, true_or, or_false, false_or, or_self, ↓reduceIte, eq_self, Nat.reduceAdd, Nat.reduceMul, Nat.reduceSub, Nat.reduceDiv, Nat.reduceMod, Nat.zero_add, Nat.mul_zero, not_true_eq_false, not_false_eq_true, up_T, up_F, wr_T, wr_F, ngE, ngE', ngL, ngL', ngQ, ngQ', r1, l1, l2, l3, if_pos c1, if_neg c2]
    · have c2 : h j + hpN gv w (6 - w) j ≤ nd j := by omega
      simp (disch := omega) only [e_Roster_mayBeBetter_2, e_Roster_mayBeBetter_3, e_Roster_mayBeBetter_4, e_Roster_mayBeBetter_1 (x4 := nI j), lit, nad, nml, bd_s, ct_s, ct_n, a11, a01, aB2, bitA, nlt, nle, neq, dlT, dlF, deT, deF, dqT, dqF, nN, inb, nsb, ndv, nrm, if_true, if_false, ite_true, ite_false, true_and, and_true, and_self, and_false, false_and, or_true, true_or, or_false, false_or, or_self, ↓reduceIte, eq_self, Nat.reduceAdd, Nat.reduceMul, Nat.reduceSub, Nat.reduceDiv, Nat.reduceMod, Nat.zero_add, Nat.mul_zero, not_true_eq_false, not_false_eq_true, up_T, up_F, wr_T, wr_F, ngE, ngE', ngL, ngL', ngQ, ngQ', r1, l1, l2, l3, if_neg c1, if_pos c2, Nat.add_zero]
  · have b3 := mt_b nd (fun j => h j + hpN gv w (6 - w) j) J
    have b4 := dy_b (h := fun j => h j + hpN gv w (6 - w) j) hn J (by omega)
    generalize mtN nd (fun j => h j + hpN gv w (6 - w) j) J = M at b3 ⊢
    generalize dyN nd (fun j => h j + hpN gv w (6 - w) j) J = D at b4 ⊢
    cases s with
    | none =>
      have l5 := hB.1
      have z : (-nI 1 < nI M) = True := ngL' (by omega) (by decide) (by decide)
      simp (disch := omega) only [e_Roster_mayBeBetter_1, e_Roster_mayBeBetter_5, e_Roster_mayBeBetter_8, e_Roster_mayBeBetter_10, lit, nad, nml, bd_s, ct_s, ct_n, a11, a01, aB2, bitA, nlt, nle, neq, dlT, dlF, deT, deF, dqT, dqF, nN, inb, nsb, ndv, nrm, if_true, if_false, ite_true, ite_false, true_and, and_true, and_self, and_false, false_and, or_true, true_or, or_false, false_or, or_self, ↓reduceIte, eq_self, Nat.reduceAdd, Nat.reduceMul, Nat.reduceSub, Nat.reduceDiv, Nat.reduceMod, Nat.zero_add, Nat.mul_zero, not_true_eq_false, not_false_eq_true, up_T, up_F, wr_T, wr_F, ngE, ngE', ngL, ngL', ngQ, ngQ', r1, l5, z, bet, show b2 true = 1 from rfl]
    | some v =>
      obtain ⟨m', d', q⟩ := v
      obtain ⟨l5, l6, l7, l8, -⟩ := hB
      by_cases c1 : m' < M
      · have e : bet M D (some (m', d', q)) = true := by simp [bet, c1]
        rw [e]
        simp (disch := omega) only [e_Roster_mayBeBetter_1, e_Roster_mayBeBetter_5, e_Roster_mayBeBetter_8, e_Roster_mayBeBetter_10, lit, nad, nml, bd_s, ct_s, ct_n, a11, a01, aB2, bitA, nlt, nle, neq, dlT, dlF, deT, deF, dqT, dqF, nN, inb, nsb, ndv, nrm, if_true, if_false, ite_true, ite_false, true_and, and_true, and_self, and_false, false_and, or_true, true_or, or_false, false_or, or_self, ↓reduceIte, eq_self, Nat.reduceAdd, Nat.reduceMul, Nat.reduceSub, Nat.reduceDiv, Nat.reduceMod, Nat.zero_add, Nat.mul_zero, not_true_eq_false, not_false_eq_true, up_T, up_F, wr_T, wr_F, ngE, ngE', ngL, ngL', ngQ, ngQ', r1, l5, show b2 true = 1 from rfl]
      · by_cases c2 : M = m'
        · by_cases c3 : d' < D
          · have e : bet M D (some (m', d', q)) = true := by simp [bet, c2, c3]
            rw [e]
            simp (disch := omega) only [e_Roster_mayBeBetter_1, e_Roster_mayBeBetter_5, e_Roster_mayBeBetter_6, e_Roster_mayBeBetter_7, e_Roster_mayBeBetter_8, e_Roster_mayBeBetter_10, lit, nad, nml, bd_s, ct_s, ct_n, a11, a01, aB2, bitA, nlt, nle, neq, dlT, dlF, deT, deF, dqT, dqF, nN, inb, nsb, ndv, nrm, if_true, if_false, ite_true, ite_false, true_and, and_true, and_self, and_false, false_and, or_true, true_or, or_false, false_or, or_self, ↓reduceIte, eq_self, Nat.reduceAdd, Nat.reduceMul, Nat.reduceSub, Nat.reduceDiv, Nat.reduceMod, Nat.zero_add, Nat.mul_zero, not_true_eq_false, not_false_eq_true, up_T, up_F, wr_T, wr_F, ngE, ngE', ngL, ngL', ngQ, ngQ', r1, l5, l6, show b2 true = 1 from rfl]
          · have e : bet M D (some (m', d', q)) = false := by simp [bet, c2, c3]
            rw [e]
            simp (disch := omega) only [e_Roster_mayBeBetter_1, e_Roster_mayBeBetter_5, e_Roster_mayBeBetter_6, e_Roster_mayBeBetter_7, e_Roster_mayBeBetter_9, e_Roster_mayBeBetter_10, lit, nad, nml, bd_s, ct_s, ct_n, a11, a01, aB2, bitA, nlt, nle, neq, dlT, dlF, deT, deF, dqT, dqF, nN, inb, nsb, ndv, nrm, if_true, if_false, ite_true, ite_false, true_and, and_true, and_self, and_false, false_and, or_true, true_or, or_false, false_or, or_self, ↓reduceIte, eq_self, Nat.reduceAdd, Nat.reduceMul, Nat.reduceSub, Nat.reduceDiv, Nat.reduceMod, Nat.zero_add, Nat.mul_zero, not_true_eq_false, not_false_eq_true, up_T, up_F, wr_T, wr_F, ngE, ngE', ngL, ngL', ngQ, ngQ', r1, l5, l6, show b2 false = 0 from rfl]
        · have e : bet M D (some (m', d', q)) = false := by simp [bet, c1, c2]
          rw [e]
          simp (disch := omega) only [e_Roster_mayBeBetter_1, e_Roster_mayBeBetter_5, e_Roster_mayBeBetter_6, e_Roster_mayBeBetter_9, e_Roster_mayBeBetter_10, lit, nad, nml, bd_s, ct_s, ct_n, a11, a01, aB2, bitA, nlt, nle, neq, dlT, dlF, deT, deF, dqT, dqF, nN, inb, nsb, ndv, nrm, if_true, if_false, ite_true, ite_false, true_and, and_true, and_self, and_false, false_and, or_true, true_or, or_false, false_or, or_self, ↓reduceIte, eq_self, Nat.reduceAdd, Nat.reduceMul, Nat.reduceSub, Nat.reduceDiv, Nat.reduceMod, Nat.zero_add, Nat.mul_zero, not_true_eq_false, not_false_eq_true, up_T, up_F, wr_T, wr_F, ngE, ngE', ngL, ngL', ngQ, ngQ', r1, l5, l6, show b2 false = 0 from rfl]
theorem s_takeBest (d J : Nat) (nd h : Nat → Nat) (gv : Nat → Nat → Nat) (p : Nat → Nat) (I : mm_I) (hR : RMc J nd gv I) (hH : HMc J h I) (hJ : J ≤ 4) (hn : ∀ j, j < J → nd j ≤ 60) (hb : ∀ j, j < J → h j ≤ 120) (hp : ∀ i, i < 6 → I 35 0 i = enc (p i)) : ∃ I', Sn (d + 1) q_Roster_takeAsBest [.inr (6, 0)] I = some (none, (sh0, I')) ∧ eqo [6, 36] I I' ∧ I' 6 0 6 = I 6 0 6 ∧ BMc (some (mtN nd h J, dyN nd h J, p)) I' := by
  obtain ⟨r1, r2, r3, r4⟩ := hR
  rw [n_Roster_takeAsBest, e_Roster_takeAsBest_0]
  refine lpX (n := J) (σ := mm_I) (fun j K => Rn d q_Roster_takeAsBest 1 [some (.inr (6, 0)), some (.inl (nI j))] [] K) (fun j K => eqo [6, 36] I K ∧ K 6 0 6 = I 6 0 6 ∧ K 6 0 7 = nI (mtN nd h j) ∧ K 6 0 8 = nI (dyN nd h j)) (fun q => ∃ I', q = some (none, (sh0, I')) ∧ eqo [6, 36] I I' ∧ I' 6 0 6 = I 6 0 6 ∧ BMc (some (mtN nd h J, dyN nd h J, p)) I') ?_ ?_ 0 _ (Nat.zero_le _) ⟨eqo_up (eqo_up (eqo_rf _ _) (by decide)) (by decide), by rw [up_F (by omega), up_F (by omega)], by rw [up_F (by omega), up_s]; rfl, by rw [up_s]; rfl⟩
  · rintro j K hj ⟨k1, k2, k3, k4⟩
    right
    have l1 : K 33 0 j = nI (nd j) := by rw [k1 33 (by decide)]; exact r2 j hj
    have l3 : K 34 0 j = nI (h j) := by rw [k1 34 (by decide)]; exact hH j hj
    have l0 : K 6 0 6 = nI J := k2.trans r1
    have b1 := hb j hj
    have b2' := hn j hj
    have b3 := mt_b nd h j
    have b4 := dy_b (h := h) hn j (by omega)
    by_cases c1 : nd j ≤ h j
    · refine ⟨mm_up (mm_up K 6 0 7 (nI (mtN nd h (j + 1)))) 6 0 8 (nI (dyN nd h (j + 1))), ⟨eqo_up (eqo_up k1 (by decide)) (by decide), by rw [up_F (by omega), up_F (by omega)]; exact k2, by rw [up_F (by omega), up_s], by rw [up_s]⟩, ?_⟩
      rw [mt_s, dy_s]
      by_cases c2 : h j ≤ nd j
      · simp (disch := omega) only [e_Roster_takeAsBest_2, e_Roster_takeAsBest_3, e_Roster_takeAsBest_4, e_Roster_takeAsBest_1 (x1 := nI j), lit, nad, nml, bd_s, ct_s, ct_n, a11, a01, aB2, bitA, nlt, nle, neq, dlT, dlF, deT, deF, dqT, dqF, nN, inb, nsb, ndv, nrm, if_true, if_false, ite_true, ite_false, true_and, and_true, and_self, and_false, false_and, or_true, true_or, or_false, false_or, or_self, ↓reduceIte, eq_self, Nat.reduceAdd, Nat.reduceMul, Nat.reduceSub, Nat.reduceDiv, Nat.reduceMod, Nat.zero_add, Nat.mul_zero, not_true_eq_false, not_false_eq_true, up_T, up_F, wr_T, wr_F, ngE, ngE', ngL, ngL', ngQ, ngQ', l0, l1, l3, k3, k4, up_F, if_pos c1, if_pos c2]
      · simp (disch := omega) only [e_Roster_takeAsBest_2, e_Roster_takeAsBest_3, e_Roster_takeAsBest_4, e_Roster_takeAsBest_1 (x1 := nI j), lit, nad, nml, bd_s, ct_s, ct_n, a11, a01, aB2, bitA, nlt, nle, neq, dlT, dlF, deT, deF, dqT, dqF, nN, inb, nsb, ndv, nrm, if_true, if_false, ite_true, ite_false, true_and, and_true, and_self, and_false, false_and, or_true, true_or, or_false, false_or, or_self, ↓reduceIte, eq_self, Nat.reduceAdd, Nat.reduceMul, Nat.reduceSub, Nat.reduceDiv, Nat.reduceMod, Nat.zero_add, Nat.mul_zero, not_true_eq_false, not_false_eq_true, up_T, up_F, wr_T, wr_F, ngE, ngE', ngL, ngL', ngQ, ngQ', l0, l1, l3, k3, k4, up_F, if_pos c1, if_neg c2]
    · have c2 : h j ≤ nd j := by omega
      refine ⟨mm_up K 6 0 8 (nI (dyN nd h (j + 1))), ⟨eqo_up k1 (by decide), by rw [up_F (by omega)]; exact k2, by rw [up_F (by omega), k3, mt_s, if_neg c1, Nat.add_zero], by rw [up_s]⟩, ?_⟩
      rw [dy_s]
      simp (disch := omega) only [e_Roster_takeAsBest_2, e_Roster_takeAsBest_4, e_Roster_takeAsBest_1 (x1 := nI j), lit, nad, nml, bd_s, ct_s, ct_n, a11, a01, aB2, bitA, nlt, nle, neq, dlT, dlF, deT, deF, dqT, dqF, nN, inb, nsb, ndv, nrm, if_true, if_false, ite_true, ite_false, true_and, and_true, and_self, and_false, false_and, or_true, true_or, or_false, false_or, or_self, ↓reduceIte, eq_self, Nat.reduceAdd, Nat.reduceMul, Nat.reduceSub, Nat.reduceDiv, Nat.reduceMod, Nat.zero_add, Nat.mul_zero, not_true_eq_false, not_false_eq_true, up_T, up_F, wr_T, wr_F, ngE, ngE', ngL, ngL', ngQ, ngQ', l0, l1, l3, k3, k4, up_F, if_pos c2]
  · rintro K ⟨k1, k2, k3, k4⟩
    have l0 : K 6 0 6 = nI J := k2.trans r1
    have b3 := mt_b nd h J
    have b4 := dy_b (h := h) hn J (by omega)
    have st : Rn d q_Roster_takeAsBest 1 [some (.inr (6, 0)), some (.inl (nI J))] [] K = Rn d q_Roster_takeAsBest 6 [some (.inr (6, 0)), some (.inl (nI 0))] [] K := by
      simp (disch := omega) only [e_Roster_takeAsBest_1, e_Roster_takeAsBest_5, lit, nad, nml, bd_s, ct_s, ct_n, a11, a01, aB2, bitA, nlt, nle, neq, dlT, dlF, deT, deF, dqT, dqF, nN, inb, nsb, ndv, nrm, if_true, if_false, ite_true, ite_false, true_and, and_true, and_self, and_false, false_and, or_true, true_or, or_false, false_or, or_self, ↓reduceIte, eq_self, Nat.reduceAdd, Nat.reduceMul, Nat.reduceSub, Nat.reduceDiv, Nat.reduceMod, Nat.zero_add, Nat.mul_zero, not_true_eq_false, not_false_eq_true, up_T, up_F, wr_T, wr_F, ngE, ngE', ngL, ngL', ngQ, ngQ', l0]
    have lp := lpG (n := 6) (fun i L => Rn d q_Roster_takeAsBest 6 [some (.inr (6, 0)), some (.inl (nI i))] [] L) (fun i => wr K 36 0 0 i (fun i => enc (p i))) (fun i hi => by
      have := wr_s K 36 0 0 i (fun i => enc (p i))
      rw [Nat.zero_add] at this
      have l9 : K 35 0 i = enc (p i) := by rw [k1 35 (by decide)]; exact hp i hi
      simp (disch := omega) only [e_Roster_takeAsBest_7, e_Roster_takeAsBest_6 (x1 := nI i), lit, nad, nml, bd_s, ct_s, ct_n, a11, a01, aB2, bitA, nlt, nle, neq, dlT, dlF, deT, deF, dqT, dqF, nN, inb, nsb, ndv, nrm, if_true, if_false, ite_true, ite_false, true_and, and_true, and_self, and_false, false_and, or_true, true_or, or_false, false_or, or_self, ↓reduceIte, eq_self, Nat.reduceAdd, Nat.reduceMul, Nat.reduceSub, Nat.reduceDiv, Nat.reduceMod, Nat.zero_add, Nat.mul_zero, not_true_eq_false, not_false_eq_true, up_T, up_F, wr_T, wr_F, ngE, ngE', ngL, ngL', ngQ, ngQ', l9, ← this]) 0 (Nat.zero_le _)
    rw [show wr K 36 0 0 0 (fun i => enc (p i)) = K from wr_0 _ _ _ _ _] at lp
    refine ⟨wr K 36 0 0 6 (fun i => enc (p i)), ?_, eqo_wr k1 (by decide), by rw [wr_F (by omega)]; exact k2, by rw [wr_F (by omega)]; exact k3, by rw [wr_F (by omega)]; exact k4, by omega, by omega, fun i hi => by rw [wr_T (by omega)]; rfl⟩
    rw [st, lp]
    simp (disch := omega) only [e_Roster_takeAsBest_6, e_Roster_takeAsBest_8, lit, nad, nml, bd_s, ct_s, ct_n, a11, a01, aB2, bitA, nlt, nle, neq, dlT, dlF, deT, deF, dqT, dqF, nN, inb, nsb, ndv, nrm, if_true, if_false, ite_true, ite_false, true_and, and_true, and_self, and_false, false_and, or_true, true_or, or_false, false_or, or_self, ↓reduceIte, eq_self, Nat.reduceAdd, Nat.reduceMul, Nat.reduceSub, Nat.reduceDiv, Nat.reduceMod, Nat.zero_add, Nat.mul_zero, not_true_eq_false, not_false_eq_true, up_T, up_F, wr_T, wr_F, ngE, ngE', ngL, ngL', ngQ, ngQ']
