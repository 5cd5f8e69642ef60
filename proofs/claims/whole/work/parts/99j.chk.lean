/-! Choice.pick. -/
theorem hI_b {bo : Nat → Int} (h : ∀ i, 0 ≤ bo i ∧ bo i ≤ 9999) : ∀ n i, 0 ≤ hI bo n i ∧ hI bo n i ≤ 9999 * n := by
  intro n
  induction n with
  | zero => intro i; exact ⟨Int.le_refl _, by show (0 : Int) ≤ 9999 * ((0 : Nat) : Int); omega⟩
  | succ n ih =>
    intro i
    have h1 := h i
    have h2 := ih (i + 1)
    show 0 ≤ bo i + hI bo n (i + 1) ∧ bo i + hI bo n (i + 1) ≤ 9999 * ((n + 1 : Nat) : Int)
    omega
theorem s_chGate (d m c n i p : Nat) (w : Int) (O : Nat → Nat → Bool) (W : Nat → Nat → Int) (P : Nat → Nat → Nat) (bo : Nat → Int) (s : BT) (I : mm_I) (hm : m ≤ 6) (hc : c ≤ 999999) (hb : ∀ i k, k < 5 → O i k = true → W i k ≤ bo i) (hbo : ∀ i, 0 ≤ bo i ∧ bo i ≤ 9999) (hi : i + n = m) (hC : CMc m O W P c bo I) (hB : BMt m s I) (hw1 : -9999 * (i : Int) ≤ w) (hw2 : w ≤ 9999 * (i : Int)) (hp : p ≤ 99999 * i) (hs : s = none → 0 ≤ w) : (Rn d q_Choice_pick 0 [some (.inr (0, 0)), some (.inl (nI i)), some (.inl (zI w)), some (.inl (nI p)), none, none] [] I = some (none, (sh0, I)) ∧ D2 O W P c n i w p s) ∨ (Rn d q_Choice_pick 0 [some (.inr (0, 0)), some (.inl (nI i)), some (.inl (zI w)), some (.inl (nI p)), none, none] [] I = Rn d q_Choice_pick 6 [some (.inr (0, 0)), some (.inl (nI i)), some (.inl (zI w)), some (.inl (nI p)), none, none] [] I ∧ p ≤ c ∧ be2 (w + hI bo n i) p s = true) := by
  obtain ⟨r1, r2, r3, r4, r5⟩ := hC
  have l22 := r5 i (by omega)
  rw [show m - i = n by omega] at l22
  have hh := hI_b hbo n i
  by_cases c1 : c < p
  · left
    refine ⟨?_, D2_p n i w p c1⟩
    simp (disch := omega) only [e_Choice_pick_0, e_Choice_pick_2, lit, nad, nml, bd_s, ct_s, ct_n, a11, a01, aB2, bitA, nlt, nle, neq, dlT, dlF, deT, deF, dqT, dqF, nN, inb, nsb, ndv, nrm, if_true, if_false, ite_true, ite_false, true_and, and_true, and_self, and_false, false_and, or_true, true_or, or_false, false_or, or_self, ↓reduceIte, eq_self, Nat.reduceAdd, Nat.reduceMul, Nat.reduceSub, Nat.reduceDiv, Nat.reduceMod, Nat.zero_add, Nat.mul_zero, not_true_eq_false, not_false_eq_true, up_T, up_F, wr_T, wr_F, ngE, ngE', ngL, ngL', ngQ, ngQ', r2]
  have k0 : Rn d q_Choice_pick 0 [some (.inr (0, 0)), some (.inl (nI i)), some (.inl (zI w)), some (.inl (nI p)), none, none] [] I = if zI (w + hI bo n i) < I 0 0 8 then some (none, (sh0, I)) else if zI (w + hI bo n i) = I 0 0 8 then (if nI p < I 0 0 9 then Rn d q_Choice_pick 6 [some (.inr (0, 0)), some (.inl (nI i)), some (.inl (zI w)), some (.inl (nI p)), none, none] [] I else some (none, (sh0, I))) else Rn d q_Choice_pick 6 [some (.inr (0, 0)), some (.inl (nI i)), some (.inl (zI w)), some (.inl (nI p)), none, none] [] I := by
    have t1 : 0 ≤ (nI i).toInt ∧ (nI i).toInt < ((7 : Nat) : Int) := by rw [nI_toInt (by omega)]; omega
    rw [e_Choice_pick_0, r2, if_neg (by rw [nlt (by omega) (by omega)]; omega), e_Choice_pick_1, if_pos t1, nN (by omega), l22, zad, e_Choice_pick_2, e_Choice_pick_3, if_pos t1, nN (by omega), l22, zad, e_Choice_pick_4, e_Choice_pick_5]
  rw [k0]
  cases s with
  | none =>
    right
    have l8 : I 0 0 8 = zI (-1) := hB.1
    have := hs rfl
    rw [l8, if_neg (by rw [zlt (by omega) (by omega) (by omega) (by omega)]; omega), if_neg (by rw [zeq (by omega) (by omega) (by omega) (by omega)]; omega)]
    exact ⟨rfl, by omega, rfl⟩
  | some v =>
    obtain ⟨w', p', q'⟩ := v
    obtain ⟨l8, l9, b1, b2', b3, -⟩ := hB
    rw [l8, l9]
    by_cases z1 : w + hI bo n i < w'
    · left
      rw [if_pos (by rw [zlt (by omega) (by omega) (by omega) (by omega)]; omega)]
      exact ⟨rfl, D2_bd hb (Or.inl z1) n i w p (Int.le_refl _) (Nat.le_refl _)⟩
    · rw [if_neg (by rw [zlt (by omega) (by omega) (by omega) (by omega)]; omega)]
      by_cases z2 : w + hI bo n i = w'
      · rw [if_pos (by rw [z2])]
        by_cases z3 : p < p'
        · right
          rw [if_pos (by rw [nlt (by omega) (by omega)]; exact z3)]
          exact ⟨rfl, by omega, by simp [be2, z2, z3]⟩
        · left
          rw [if_neg (by rw [nlt (by omega) (by omega)]; exact z3)]
          exact ⟨rfl, D2_bd hb (Or.inr ⟨z2, by omega⟩) n i w p (Int.le_refl _) (Nat.le_refl _)⟩
      · right
        rw [if_neg (by rw [zeq (by omega) (by omega) (by omega) (by omega)]; exact z2)]
        have z4 : w' < w + hI bo n i := by omega
        exact ⟨rfl, by omega, by simp [be2, z4]⟩
theorem s_chPick (d m c : Nat) (O : Nat → Nat → Bool) (W : Nat → Nat → Int) (P : Nat → Nat → Nat) (bo : Nat → Int) (hm : m ≤ 6) (hc : c ≤ 999999) (h0 : ∀ i, O i 0 = true ∧ P i 0 = 0) (hW0 : ∀ i, W i 0 = 0) (hW : ∀ i k, -9999 ≤ W i k ∧ W i k ≤ 9999) (hP : ∀ i k, P i k ≤ 99999) (hb : ∀ i k, k < 5 → O i k = true → W i k ≤ bo i) (hbo : ∀ i, 0 ≤ bo i ∧ bo i ≤ 9999) : ∀ n i (w : Int) (p : Nat) (q : Nat → Nat) (s : BT) (I : mm_I), i + n = m → CMc m O W P c bo I → BMt m s I → -9999 * (i : Int) ≤ w → w ≤ 9999 * (i : Int) → p ≤ 99999 * i → (s = none → 0 ≤ w) → (∀ k, k < i → I 23 0 k = nI (q k)) → ∃ I', Sn (d + 1 + n) q_Choice_pick [.inr (0, 0), .inl (nI i), .inl (zI w), .inl (nI p)] I = some (none, (sh0, I')) ∧ eqo [0, 23, 24] I I' ∧ I' 0 0 6 = I 0 0 6 ∧ I' 0 0 7 = I 0 0 7 ∧ (∀ k, k < i → I' 23 0 k = I 23 0 k) ∧ BMt m (cf O W P c n i w p q s) I' := by
  intro n
  induction n with
  | zero =>
    intro i w p q s I hi hC hB hw1 hw2 hp hs hq
    rcases s_chGate d m c 0 i p w O W P bo s I hm hc hb hbo hi hC hB hw1 hw2 hp hs with ⟨g1, g2⟩ | ⟨g1, g2, g3⟩
    · refine ⟨I, ?_, eqo_rf _ _, rfl, rfl, fun _ _ => rfl, ?_⟩
      · rw [show d + 1 + 0 = d + 1 from rfl, n_Choice_pick]; exact g1
      · rw [D2_cf _ _ _ _ _ _ g2]; exact hB
    · have hi' : i = m := hi
      subst hi'
      obtain ⟨r1, r2, r3, r4, r5⟩ := hC
      have g4 : be2 w p s = true := by rw [← g3, show hI bo 0 i = 0 from rfl, Int.add_zero]
      have e1 : eqo [0, 24] I (mm_up (mm_up I 0 0 8 (zI w)) 0 0 9 (nI p)) := eqo_up (eqo_up (eqo_rf _ _) (by decide)) (by decide)
      have r1' : ∀ k, wr (mm_up (mm_up I 0 0 8 (zI w)) 0 0 9 (nI p)) 24 0 0 k (fun k => nI (q k)) 0 0 6 = nI i := fun k => by rw [wr_F (by omega), up_F (by omega), up_F (by omega)]; exact r1
      have k1 : Rn d q_Choice_pick 6 [some (.inr (0, 0)), some (.inl (nI i)), some (.inl (zI w)), some (.inl (nI p)), none, none] [] I = Rn d q_Choice_pick 8 [some (.inr (0, 0)), some (.inl (nI i)), some (.inl (zI w)), some (.inl (nI p)), some (.inl (nI 0)), none] [] (mm_up (mm_up I 0 0 8 (zI w)) 0 0 9 (nI p)) := by
        simp (disch := omega) only [e_Choice_pick_6, e_Choice_pick_7, lit, nad, nml, bd_s, ct_s, ct_n, a11, a01, aB2, bitA, nlt, nle, neq, dlT, dlF, deT, deF, dqT, dqF, nN, inb, nsb, ndv, nrm, if_true, if_false, ite_true, ite_false, true_and, and_true, and_self, and_false, false_and, or_true, true_or, or_false, false_or, or_self, ↓reduceIte, eq_self, Nat.reduceAdd, Nat.reduceMul, Nat.reduceSub, Nat.reduceDiv, Nat.reduceMod, Nat.zero_add, Nat.mul_zero, not_true_eq_false, not_false_eq_true, up_T, up_F, wr_T, wr_F, ngE, ngE', ngL, ngL', ngQ, ngQ', r1]
      have lp := lpG (n := i) (fun k K => Rn d q_Choice_pick 8 [some (.inr (0, 0)), some (.inl (nI i)), some (.inl (zI w)), some (.inl (nI p)), some (.inl (nI k)), none] [] K) (fun k => wr (mm_up (mm_up I 0 0 8 (zI w)) 0 0 9 (nI p)) 24 0 0 k (fun k => nI (q k))) (fun k hk => by
        have := wr_s (mm_up (mm_up I 0 0 8 (zI w)) 0 0 9 (nI p)) 24 0 0 k (fun k => nI (q k))
        rw [Nat.zero_add] at this
        have l9 : mm_up (mm_up I 0 0 8 (zI w)) 0 0 9 (nI p) 23 0 k = nI (q k) := by rw [up_F (by omega), up_F (by omega)]; exact hq k hk
        have l10 : wr (mm_up (mm_up I 0 0 8 (zI w)) 0 0 9 (nI p)) 24 0 0 k (fun k => nI (q k)) 23 0 k = nI (q k) := by rw [wr_F (by omega)]; exact l9
        show Rn d q_Choice_pick 8 _ _ _ = Rn d q_Choice_pick 8 _ _ (wr (mm_up (mm_up I 0 0 8 (zI w)) 0 0 9 (nI p)) 24 0 0 (k + 1) (fun k => nI (q k)))
        have t1 : 0 ≤ (nI k).toInt ∧ (nI k).toInt < ((6 : Nat) : Int) := by rw [nI_toInt (by omega)]; omega
        rw [e_Choice_pick_8, r1' k, if_pos (by rw [nlt (by omega) (by omega)]; exact hk), e_Choice_pick_9, if_pos t1, if_pos t1, nN (by omega), l10, this, show nI k + (1 : Int32) = nI (k + 1) from nad k 1]) 0 (Nat.zero_le _)
      rw [show wr (mm_up (mm_up I 0 0 8 (zI w)) 0 0 9 (nI p)) 24 0 0 0 (fun k => nI (q k)) = mm_up (mm_up I 0 0 8 (zI w)) 0 0 9 (nI p) from wr_0 _ _ _ _ _] at lp
      refine ⟨wr (mm_up (mm_up I 0 0 8 (zI w)) 0 0 9 (nI p)) 24 0 0 i (fun k => nI (q k)), ?_, eqo_mono (eqo_wr e1 (by decide)) (by decide), by rw [r1' i, r1], by rw [wr_F (by omega), up_F (by omega), up_F (by omega)], fun k hk => by rw [wr_F (by omega), up_F (by omega), up_F (by omega)], ?_⟩
      · rw [show d + 1 + 0 = d + 1 from rfl, n_Choice_pick, g1, k1]
        refine lp.trans ?_
        show Rn d q_Choice_pick 8 _ _ _ = _
        rw [e_Choice_pick_8, r1' i, if_neg (by rw [nlt (by omega) (by omega)]; omega), e_Choice_pick_10]
      · unfold cf tk2
        rw [g4, decide_eq_true g2, if_pos (show (true && true) = true from rfl)]
        exact ⟨by rw [wr_F (by omega), up_F (by omega), up_s], by rw [wr_F (by omega), up_s], by omega, by omega, by omega, fun k hk => by rw [wr_T (by omega)]; rfl⟩
  | succ n ih =>
    intro i w p q s I hi hC hB hw1 hw2 hp hs hq
    rw [show d + 1 + (n + 1) = d + 1 + n + 1 by omega, n_Choice_pick]
    rcases s_chGate (d + 1 + n) m c (n + 1) i p w O W P bo s I hm hc hb hbo hi hC hB hw1 hw2 hp hs with ⟨g1, g2⟩ | ⟨g1, g2, g3⟩
    · refine ⟨I, g1, eqo_rf _ _, rfl, rfl, fun _ _ => rfl, ?_⟩
      rw [D2_cf _ _ _ _ _ _ g2]; exact hB
    · have r1 := hC.1
      have k1 : Rn (d + 1 + n) q_Choice_pick 6 [some (.inr (0, 0)), some (.inl (nI i)), some (.inl (zI w)), some (.inl (nI p)), none, none] [] I = Rn (d + 1 + n) q_Choice_pick 12 [some (.inr (0, 0)), some (.inl (nI i)), some (.inl (zI w)), some (.inl (nI p)), some (.inl (nI 0)), none] [] I := by
        simp (disch := omega) only [e_Choice_pick_6, e_Choice_pick_11, lit, nad, nml, bd_s, ct_s, ct_n, a11, a01, aB2, bitA, nlt, nle, neq, dlT, dlF, deT, deF, dqT, dqF, nN, inb, nsb, ndv, nrm, if_true, if_false, ite_true, ite_false, true_and, and_true, and_self, and_false, false_and, or_true, true_or, or_false, false_or, or_self, ↓reduceIte, eq_self, Nat.reduceAdd, Nat.reduceMul, Nat.reduceSub, Nat.reduceDiv, Nat.reduceMod, Nat.zero_add, Nat.mul_zero, not_true_eq_false, not_false_eq_true, up_T, up_F, wr_T, wr_F, ngE, ngE', ngL, ngL', ngQ, ngQ', r1]
      rw [g1, k1]
      refine lpX (n := 5) (σ := Option mm_V × mm_I) (fun k t => Rn (d + 1 + n) q_Choice_pick 12 [some (.inr (0, 0)), some (.inl (nI i)), some (.inl (zI w)), some (.inl (nI p)), some (.inl (nI k)), t.1] [] t.2) (fun k t => eqo [0, 23, 24] I t.2 ∧ t.2 0 0 6 = I 0 0 6 ∧ t.2 0 0 7 = I 0 0 7 ∧ (∀ j, j < i → t.2 23 0 j = I 23 0 j) ∧ BMt m (fo (fun k s => if O i k = true then cf O W P c n (i + 1) (w + W i k) (p + P i k) (uN q i k) s else s) k s) t.2) (fun z => ∃ I', z = some (none, (sh0, I')) ∧ eqo [0, 23, 24] I I' ∧ I' 0 0 6 = I 0 0 6 ∧ I' 0 0 7 = I 0 0 7 ∧ (∀ k, k < i → I' 23 0 k = I 23 0 k) ∧ BMt m (cf O W P c (n + 1) i w p q s) I') ?_ ?_ 0 (none, I) (Nat.zero_le _) ⟨eqo_rf _ _, rfl, rfl, fun _ _ => rfl, hB⟩
      · rintro k ⟨v, K⟩ hk ⟨j1, j2, j3, j4, j5⟩
        dsimp only at j1 j2 j3 j4 j5 ⊢
        right
        have hCK := CMc_e hC j1 j2 j3
        obtain ⟨s1, s2, s3, s4, s5⟩ := hCK
        have l200 := s3 i k (by omega) hk
        have t1 : 0 ≤ (nI (i * 5 + k)).toInt ∧ (nI (i * 5 + k)).toInt < ((30 : Nat) : Int) := by rw [nI_toInt (by omega)]; omega
        have ix : nI i * (5 : Int32) + nI k = nI (i * 5 + k) := by rw [show (5 : Int32) = nI 5 from rfl, nml, nad]
        have nk : nI k + (1 : Int32) = nI (k + 1) := nad k 1
        have b12 : Rn (d + 1 + n) q_Choice_pick 12 [some (.inr (0, 0)), some (.inl (nI i)), some (.inl (zI w)), some (.inl (nI p)), some (.inl (nI k)), v] [] K = Rn (d + 1 + n) q_Choice_pick 13 [some (.inr (0, 0)), some (.inl (nI i)), some (.inl (zI w)), some (.inl (nI p)), some (.inl (nI k)), v] [] K := by
          rw [e_Choice_pick_12, if_pos (by rw [show (5 : Int32) = nI 5 from rfl, nlt (by omega) (by omega)]; exact hk)]
        cases z : O i k with
        | false =>
          refine ⟨(some (.inl (nI (i * 5 + k))), K), ⟨j1, j2, j3, j4, ?_⟩, ?_⟩
          · rw [fo, z]; exact j5
          · rw [z] at l200
            rw [b12, e_Choice_pick_13, ix, if_pos t1, nN (by omega), l200, if_pos (show nI (b2 false) = 0 from rfl), e_Choice_pick_14, e_Choice_pick_16, nk]
        | true =>
          rw [z] at l200
          obtain ⟨m1, m2⟩ := s4 i k (by omega) hk z
          have hWk := hW i k
          have hPk := hP i k
          have e3 : eqo [23] K (mm_up K 23 0 i (nI k)) := eqo_up (eqo_rf _ _) (by decide)
          obtain ⟨K2, p1, p2, p3, p4, p5, p6⟩ := ih (i + 1) (w + W i k) (p + P i k) (uN q i k) _ (mm_up K 23 0 i (nI k)) (by omega) (CMc_e ⟨s1, s2, s3, s4, s5⟩ (eqo_mono e3 (by decide)) (by rw [up_F (by omega)]) (by rw [up_F (by omega)])) (BMt_e j5 e3) (by omega) (by omega) (by omega) (fun y => by
            cases k with
            | zero => have := hs y; rw [hW0]; omega
            | succ k' => exact absurd y (foc_n h0 n i w p q s g2 k')) (fun j hj => by
            by_cases y : j = i
            · rw [y, up_s, uN_s]
            · rw [up_F (by omega), uN_n y, j4 j (by omega)]; exact hq j (by omega))
          refine ⟨(some (.inl (nI (i * 5 + k))), K2), ⟨eqo_tr j1 (eqo_tr (eqo_mono e3 (by decide)) p2), ?_, ?_, fun j hj => ?_, ?_⟩, ?_⟩
          · dsimp only
            rw [p3, up_F (by omega)]; exact j2
          · dsimp only
            rw [p4, up_F (by omega)]; exact j3
          · dsimp only
            rw [p5 j (by omega), up_F (by omega)]; exact j4 j hj
          · rw [fo, z, if_pos rfl]; exact p6
          · dsimp only
            have t2 : 0 ≤ (nI i).toInt ∧ (nI i).toInt < ((6 : Nat) : Int) := by rw [nI_toInt (by omega)]; omega
            have ni : nI i + (1 : Int32) = nI (i + 1) := nad i 1
            have x1 : mm_up K 23 0 i (nI k) 20 0 (i * 5 + k) = zI (W i k) := by rw [up_F (by omega)]; exact m1
            have x2 : mm_up K 23 0 i (nI k) 21 0 (i * 5 + k) = nI (P i k) := by rw [up_F (by omega)]; exact m2
            rw [b12, e_Choice_pick_13, ix, if_pos t1, nN (by omega), l200, if_neg (show ¬ nI (b2 true) = 0 by decide), e_Choice_pick_15, if_pos t2, if_pos t1, if_pos t1, nN (by omega), nN (by omega), x1, x2, zad, nad, ni, p1, bd_s, ct_n]
            refine (e_Choice_pick_16 (d + 1 + n) (nI i) (zI w) (nI p) (nI k) (nI (i * 5 + k)) K2).trans ?_
            rw [nk]
      · rintro ⟨v, K⟩ ⟨j1, j2, j3, j4, j5⟩
        dsimp only at j1 j2 j3 j4 j5 ⊢
        refine ⟨K, ?_, j1, j2, j3, j4, j5⟩
        rw [e_Choice_pick_12, if_neg (by decide), e_Choice_pick_17]
