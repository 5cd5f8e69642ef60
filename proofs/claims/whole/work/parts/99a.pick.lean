/-! Roster.pick. -/
theorem ch_bd {J : Nat} {gv : Nat → Nat → Nat} {H h : Nat → Nat} {n w : Nat} (q : ∀ j, j < J → h j + hpN gv w (n + 1) j ≤ H j) (x : Nat) : ∀ j, j < J → chN gv w h x j + hpN gv (w + 1) n j ≤ H j := by
  intro j hj
  have e2 : ∀ m, sm (fun i => gv (w + i) j) (m + 1) = gv w j + sm (fun i => gv (w + 1 + i) j) m := by
    intro m
    induction m with
    | zero => show 0 + gv (w + 0) j = gv w j + 0; rw [Nat.add_zero]; omega
    | succ m im => rw [sm, im, sm, show w + (m + 1) = w + 1 + m by omega]; omega
  have := q j hj
  unfold hpN at this ⊢
  rw [e2] at this
  unfold chN
  split
  · omega
  · by_cases z : j = x - 1
    · rw [z, uN_s, ← z]; omega
    · rw [uN_n z]; omega
theorem BMc_e {s : BS} {I I' : mm_I} (h : BMc s I) (e : eqo [34, 35] I I') : BMc s I' := by
  cases s with
  | none => show I' 6 0 7 = -nI 1 ∧ I' 6 0 8 = nI 0; rw [e 6 (by decide)]; exact h
  | some v => obtain ⟨m, d, q⟩ := v; show I' 6 0 7 = nI m ∧ I' 6 0 8 = nI d ∧ m ≤ 4 ∧ d ≤ 1000 ∧ ∀ i, i < 6 → I' 36 0 i = enc (q i); rw [e 6 (by decide), e 36 (by decide)]; exact h
theorem fo_DD {J : Nat} {nd : Nat → Nat} {gv : Nat → Nat → Nat} (n w : Nat) (h p : Nat → Nat) (s : BS) (m x : Nat) (hx : x < m) : DD J nd gv n (w + 1) (chN gv w h x) (fo (fun x s => rf J nd gv n (w + 1) (chN gv w h x) (uN p w x) s) m s) :=
  fo_all (f := fun x s => rf J nd gv n (w + 1) (chN gv w h x) (uN p w x) s) (P := fun x s => DD J nd gv n (w + 1) (chN gv w h x) s) (fun x s => rf_DD _ _ _ _ _) (fun x y s q => DD_le _ _ _ _ _ (rf_leB _ _ _ _ _) q) m s x hx
theorem s_pick (d J : Nat) (nd : Nat → Nat) (gv : Nat → Nat → Nat) (hJ : J ≤ 4) (hn : ∀ j, j < J → nd j ≤ 60) (hg : ∀ w j, gv w j ≤ 20) : ∀ n w (h p : Nat → Nat) (s : BS) (I : mm_I), w + n = 6 → RMc J nd gv I → HMc J h I → BMc s I → (∀ j, j < J → h j + hpN gv w n j ≤ 120) → (∀ i, i < w → I 35 0 i = enc (p i)) → ∃ I', Sn (d + 2 + n) q_Roster_pick [.inr (6, 0), .inl (nI w)] I = some (none, (sh0, I')) ∧ eqo [6, 34, 35, 36] I I' ∧ I' 6 0 6 = I 6 0 6 ∧ HMc J h I' ∧ (∀ i, i < w → I' 35 0 i = I 35 0 i) ∧ BMc (rf J nd gv n w h p s) I' := by
  intro n
  induction n with
  | zero =>
    intro w h p s I hw hR hH hB hb hp
    have hw' : w = 6 := hw
    subst hw'
    have mb := s_mayBe d 6 J nd h gv s I hR hH hB hJ (by omega) hn hb
    have z1 : mtN nd (fun j => h j + hpN gv 6 (6 - 6) j) J = mtN nd h J := mt_c (fun j _ => rfl)
    have z2 : dyN nd (fun j => h j + hpN gv 6 (6 - 6) j) J = dyN nd h J := dy_c (fun j _ => rfl)
    rw [z1, z2] at mb
    unfold rf tkB
    cases c : bet (mtN nd h J) (dyN nd h J) s with
    | false =>
      rw [c] at mb
      refine ⟨I, ?_, eqo_rf _ _, rfl, hH, fun _ _ => rfl, hB⟩
      simp (disch := omega) only [n_Roster_pick, e_Roster_pick_0, e_Roster_pick_1, e_Roster_pick_2, lit, nad, nml, bd_s, ct_s, ct_n, a11, a01, aB2, bitA, nlt, nle, neq, dlT, dlF, deT, deF, dqT, dqF, nN, inb, nsb, ndv, nrm, if_true, if_false, ite_true, ite_false, true_and, and_true, and_self, and_false, false_and, or_true, true_or, or_false, false_or, or_self, ↓reduceIte, eq_self, Nat.reduceAdd, Nat.reduceMul, Nat.reduceSub, Nat.reduceDiv, Nat.reduceMod, Nat.zero_add, Nat.mul_zero, not_true_eq_false, not_false_eq_true, up_T, up_F, wr_T, wr_F, ngE, ngE', ngL, ngL', ngQ, ngQ', mb, show b2 false = 0 from rfl]
    | true =>
      rw [c] at mb
      obtain ⟨I', t1, t2, t3, t4⟩ := s_takeBest d J nd h gv p I hR hH hJ hn (fun j hj => by have := hb j hj; omega) hp
      refine ⟨I', ?_, eqo_mono t2 (by decide), t3, by unfold HMc; rw [t2 34 (by decide)]; exact hH, fun i hi => by rw [t2 35 (by decide)], t4⟩
      simp (disch := omega) only [n_Roster_pick, e_Roster_pick_0, e_Roster_pick_1, e_Roster_pick_3, e_Roster_pick_4, e_Roster_pick_5, lit, nad, nml, bd_s, ct_s, ct_n, a11, a01, aB2, bitA, nlt, nle, neq, dlT, dlF, deT, deF, dqT, dqF, nN, inb, nsb, ndv, nrm, if_true, if_false, ite_true, ite_false, true_and, and_true, and_self, and_false, false_and, or_true, true_or, or_false, false_or, or_self, ↓reduceIte, eq_self, Nat.reduceAdd, Nat.reduceMul, Nat.reduceSub, Nat.reduceDiv, Nat.reduceMod, Nat.zero_add, Nat.mul_zero, not_true_eq_false, not_false_eq_true, up_T, up_F, wr_T, wr_F, ngE, ngE', ngL, ngL', ngQ, ngQ', mb, t1, show b2 true = 1 from rfl]
  | succ n ih =>
    intro w h p s I hw hR hH hB hb hp
    have hwn : 6 - w = n + 1 := by omega
    have mb := s_mayBe (d + 1 + n) w J nd h gv s I hR hH hB hJ (by omega) hn (by rw [hwn]; exact hb)
    rw [hwn] at mb
    rw [show d + 1 + n + 1 = d + 2 + n by omega] at mb
    rw [show d + 2 + (n + 1) = d + 2 + n + 1 by omega]
    cases c : bet (mtN nd (fun j => h j + hpN gv w (n + 1) j) J) (dyN nd (fun j => h j + hpN gv w (n + 1) j) J) s with
    | false =>
      rw [c] at mb
      rw [DD_rf _ _ _ _ _ (DD_bd c (n + 1) w h (fun j _ => Nat.le_refl _))]
      refine ⟨I, ?_, eqo_rf _ _, rfl, hH, fun _ _ => rfl, hB⟩
      simp (disch := omega) only [n_Roster_pick, e_Roster_pick_0, e_Roster_pick_1, e_Roster_pick_2, lit, nad, nml, bd_s, ct_s, ct_n, a11, a01, aB2, bitA, nlt, nle, neq, dlT, dlF, deT, deF, dqT, dqF, nN, inb, nsb, ndv, nrm, if_true, if_false, ite_true, ite_false, true_and, and_true, and_self, and_false, false_and, or_true, true_or, or_false, false_or, or_self, ↓reduceIte, eq_self, Nat.reduceAdd, Nat.reduceMul, Nat.reduceSub, Nat.reduceDiv, Nat.reduceMod, Nat.zero_add, Nat.mul_zero, not_true_eq_false, not_false_eq_true, up_T, up_F, wr_T, wr_F, ngE, ngE', ngL, ngL', ngQ, ngQ', mb, show b2 false = 0 from rfl]
    | true =>
      rw [c] at mb
      have h0 : chN gv w h 0 = h := if_pos rfl
      have ch1 : ∀ j, chN gv w h (j + 1) = uN h j (h j + gv w j) := fun j => if_neg (by omega)
      have e0 : eqo [34, 35] I (mm_up I 35 0 w (-nI 1000000005)) := eqo_up (eqo_rf _ _) (by decide)
      have bd0 := ch_bd hb 0
      rw [h0] at bd0
      obtain ⟨I1, q1, q2, q3, q4, q5, q6⟩ := ih (w + 1) h (uN p w 0) s (mm_up I 35 0 w (-nI 1000000005)) (by omega) (RMc_e hR (eqo_mono e0 (by decide)) (by rw [up_F (by omega)])) (fun j hj => by rw [up_F (by omega)]; exact hH j hj) (BMc_e hB e0) bd0 (fun i hi => by
        by_cases z : i = w
        · rw [z, up_s, uN_s]; rfl
        · rw [up_F (by omega), uN_n z]; exact hp i (by omega))
      have k0 : Sn (d + 2 + n + 1) q_Roster_pick [.inr (6, 0), .inl (nI w)] I = Rn (d + 2 + n) q_Roster_pick 8 [some (.inr (6, 0)), some (.inl (nI w)), some (.inl (nI 0)), none] [] I1 := by
        simp (disch := omega) only [n_Roster_pick, e_Roster_pick_0, e_Roster_pick_1, e_Roster_pick_3, e_Roster_pick_6, e_Roster_pick_7, lit, nad, nml, bd_s, ct_s, ct_n, a11, a01, aB2, bitA, nlt, nle, neq, dlT, dlF, deT, deF, dqT, dqF, nN, inb, nsb, ndv, nrm, if_true, if_false, ite_true, ite_false, true_and, and_true, and_self, and_false, false_and, or_true, true_or, or_false, false_or, or_self, ↓reduceIte, eq_self, Nat.reduceAdd, Nat.reduceMul, Nat.reduceSub, Nat.reduceDiv, Nat.reduceMod, Nat.zero_add, Nat.mul_zero, not_true_eq_false, not_false_eq_true, up_T, up_F, wr_T, wr_F, ngE, ngE', ngL, ngL', ngQ, ngQ', mb, q1, show b2 true = 1 from rfl]
      rw [k0]
      refine lpX (n := J) (σ := Option mm_V × mm_I) (fun j t => Rn (d + 2 + n) q_Roster_pick 8 [some (.inr (6, 0)), some (.inl (nI w)), some (.inl (nI j)), t.1] [] t.2) (fun j t => eqo [6, 34, 35, 36] I t.2 ∧ t.2 6 0 6 = I 6 0 6 ∧ HMc J h t.2 ∧ (∀ i, i < w → t.2 35 0 i = I 35 0 i) ∧ BMc (fo (fun x s => rf J nd gv n (w + 1) (chN gv w h x) (uN p w x) s) (j + 1) s) t.2) (fun q => ∃ I', q = some (none, (sh0, I')) ∧ eqo [6, 34, 35, 36] I I' ∧ I' 6 0 6 = I 6 0 6 ∧ HMc J h I' ∧ (∀ i, i < w → I' 35 0 i = I 35 0 i) ∧ BMc (rf J nd gv (n + 1) w h p s) I') ?_ ?_ 0 (none, I1) (Nat.zero_le _) ⟨eqo_tr (eqo_mono e0 (by decide)) q2, by dsimp only; rw [q3, up_F (by omega)], q4, fun i hi => by dsimp only; rw [q5 i (by omega), up_F (by omega)], by
        show BMc (rf J nd gv n (w + 1) (chN gv w h 0) (uN p w 0) s) I1
        rw [h0]
        exact q6⟩
      · rintro j ⟨v, K⟩ hj ⟨k1, k2, k3, k4, k5⟩
        dsimp only at k1 k2 k3 k4 k5 ⊢
        right
        obtain ⟨r1, r2, r3, r4⟩ := RMc_e hR k1 k2
        have l1 := r3 w j (by omega) hj
        have l2 := k3 j hj
        have l3 := r2 j hj
        have g1 := hg w j
        have b1 := hb j hj
        have b2' := hn j hj
        have D0 := fo_DD (J := J) (nd := nd) (gv := gv) n w h p s (j + 1) 0 (by omega)
        rw [h0] at D0
        have skip : eqH J nd h (chN gv w h (j + 1)) → fo (fun x s => rf J nd gv n (w + 1) (chN gv w h x) (uN p w x) s) (j + 1 + 1) s = fo (fun x s => rf J nd gv n (w + 1) (chN gv w h x) (uN p w x) s) (j + 1) s := fun e => by
          rw [fo]
          exact DD_rf _ _ _ _ _ (DD_eq _ _ _ _ e D0)
        by_cases c1 : gv w j = 0
        · refine ⟨(some (.inl (nI (gv w j))), K), ⟨k1, k2, k3, k4, ?_⟩, ?_⟩
          · rw [skip (fun i hi => by
              rw [ch1]
              by_cases z : i = j
              · rw [z, uN_s, c1]; left; rfl
              · rw [uN_n z]; left; rfl)]
            exact k5
          · simp (disch := omega) only [e_Roster_pick_9, e_Roster_pick_14, e_Roster_pick_8 (x2 := nI j), lit, nad, nml, bd_s, ct_s, ct_n, a11, a01, aB2, bitA, nlt, nle, neq, dlT, dlF, deT, deF, dqT, dqF, nN, inb, nsb, ndv, nrm, if_true, if_false, ite_true, ite_false, true_and, and_true, and_self, and_false, false_and, or_true, true_or, or_false, false_or, or_self, ↓reduceIte, eq_self, Nat.reduceAdd, Nat.reduceMul, Nat.reduceSub, Nat.reduceDiv, Nat.reduceMod, Nat.zero_add, Nat.mul_zero, not_true_eq_false, not_false_eq_true, up_T, up_F, wr_T, wr_F, ngE, ngE', ngL, ngL', ngQ, ngQ', r1, l1]
        by_cases c2 : nd j ≤ h j
        · refine ⟨(some (.inl (nI (gv w j))), K), ⟨k1, k2, k3, k4, ?_⟩, ?_⟩
          · rw [skip (fun i hi => by
              rw [ch1]
              by_cases z : i = j
              · rw [z, uN_s]; right; omega
              · rw [uN_n z]; left; rfl)]
            exact k5
          · simp (disch := omega) only [e_Roster_pick_9, e_Roster_pick_10, e_Roster_pick_11, e_Roster_pick_14, e_Roster_pick_8 (x2 := nI j), lit, nad, nml, bd_s, ct_s, ct_n, a11, a01, aB2, bitA, nlt, nle, neq, dlT, dlF, deT, deF, dqT, dqF, nN, inb, nsb, ndv, nrm, if_true, if_false, ite_true, ite_false, true_and, and_true, and_self, and_false, false_and, or_true, true_or, or_false, false_or, or_self, ↓reduceIte, eq_self, Nat.reduceAdd, Nat.reduceMul, Nat.reduceSub, Nat.reduceDiv, Nat.reduceMod, Nat.zero_add, Nat.mul_zero, not_true_eq_false, not_false_eq_true, up_T, up_F, wr_T, wr_F, ngE, ngE', ngL, ngL', ngQ, ngQ', r1, l1, l2, l3]
        have e3 : eqo [34, 35] K (mm_up (mm_up K 35 0 w (nI j)) 34 0 j (nI (h j + gv w j))) := eqo_up (eqo_up (eqo_rf _ _) (by decide)) (by decide)
        obtain ⟨I2, p1, p2, p3, p4, p5, p6⟩ := ih (w + 1) (chN gv w h (j + 1)) (uN p w (j + 1)) _ (mm_up (mm_up K 35 0 w (nI j)) 34 0 j (nI (h j + gv w j))) (by omega) (RMc_e ⟨r1, r2, r3, r4⟩ (eqo_mono e3 (by decide)) (by rw [up_F (by omega), up_F (by omega)])) (fun i hi => by
          rw [ch1]
          by_cases z : i = j
          · rw [z, up_s, uN_s]
          · rw [up_F (by omega), up_F (by omega), uN_n z]; exact k3 i hi) (BMc_e k5 e3) (ch_bd hb (j + 1)) (fun i hi => by
          by_cases z : i = w
          · rw [z, up_F (by omega), up_s, uN_s]; rfl
          · rw [up_F (by omega), up_F (by omega), uN_n z, k4 i (by omega)]; exact hp i (by omega))
        have l4 := p4 j hj
        rw [ch1, uN_s] at l4
        have e5 : eqo [6, 34, 35, 36] I I2 := eqo_tr k1 (eqo_tr (eqo_mono e3 (by decide)) p2)
        refine ⟨(some (.inl (nI (gv w j))), mm_up I2 34 0 j (nI (h j))), ⟨eqo_up e5 (by decide), ?_, fun i hi => ?_, fun i hi => ?_, ?_⟩, ?_⟩
        · dsimp only
          rw [up_F (by omega), p3, up_F (by omega), up_F (by omega)]; exact k2
        · dsimp only
          by_cases z : i = j
          · rw [z, up_s]
          · rw [up_F (by omega), p4 i hi, ch1, uN_n z]
        · dsimp only
          rw [up_F (by omega), p5 i (by omega), up_F (by omega), up_F (by omega)]; exact k4 i hi
        · exact BMc_e p6 (eqo_up (eqo_rf _ _) (by decide))
        · dsimp only
          simp (disch := omega) only [e_Roster_pick_9, e_Roster_pick_10, e_Roster_pick_12, e_Roster_pick_13, e_Roster_pick_14, e_Roster_pick_8 (x2 := nI j), lit, nad, nml, bd_s, ct_s, ct_n, a11, a01, aB2, bitA, nlt, nle, neq, dlT, dlF, deT, deF, dqT, dqF, nN, inb, nsb, ndv, nrm, if_true, if_false, ite_true, ite_false, true_and, and_true, and_self, and_false, false_and, or_true, true_or, or_false, false_or, or_self, ↓reduceIte, eq_self, Nat.reduceAdd, Nat.reduceMul, Nat.reduceSub, Nat.reduceDiv, Nat.reduceMod, Nat.zero_add, Nat.mul_zero, not_true_eq_false, not_false_eq_true, up_T, up_F, wr_T, wr_F, ngE, ngE', ngL, ngL', ngQ, ngQ', r1, l1, l2, l3, up_F, p1, l4, Nat.add_sub_cancel]
      · rintro ⟨v, K⟩ ⟨k1, k2, k3, k4, k5⟩
        dsimp only at k1 k2 k3 k4 k5 ⊢
        have r1 := (RMc_e hR k1 k2).1
        refine ⟨K, ?_, k1, k2, k3, k4, k5⟩
        simp (disch := omega) only [e_Roster_pick_8, e_Roster_pick_15, lit, nad, nml, bd_s, ct_s, ct_n, a11, a01, aB2, bitA, nlt, nle, neq, dlT, dlF, deT, deF, dqT, dqF, nN, inb, nsb, ndv, nrm, if_true, if_false, ite_true, ite_false, true_and, and_true, and_self, and_false, false_and, or_true, true_or, or_false, false_or, or_self, ↓reduceIte, eq_self, Nat.reduceAdd, Nat.reduceMul, Nat.reduceSub, Nat.reduceDiv, Nat.reduceMod, Nat.zero_add, Nat.mul_zero, not_true_eq_false, not_false_eq_true, up_T, up_F, wr_T, wr_F, ngE, ngE', ngL, ngL', ngQ, ngQ', r1]
