/-! Choice.bestOf, findBest. -/
def boN (O : Nat → Nat → Bool) (W : Nat → Nat → Int) (i : Nat) : Nat → Int
  | 0 => 0
  | k + 1 => if O i k = true ∧ boN O W i k < W i k then W i k else boN O W i k
theorem boN_b {O : Nat → Nat → Bool} {W : Nat → Nat → Int} (hW : ∀ i k, -9999 ≤ W i k ∧ W i k ≤ 9999) (i : Nat) : ∀ k, 0 ≤ boN O W i k ∧ boN O W i k ≤ 9999
  | 0 => ⟨Int.le_refl _, by show (0 : Int) ≤ 9999; decide⟩
  | k + 1 => by
    have h1 := boN_b hW i (O := O) k
    have h2 := hW i k
    rw [boN]
    split
    · rename_i z; exact ⟨by omega, h2.2⟩
    · exact h1
theorem boN_g {O : Nat → Nat → Bool} {W : Nat → Nat → Int} (i : Nat) : ∀ m k, k < m → O i k = true → W i k ≤ boN O W i m
  | 0, _, h, _ => absurd h (Nat.not_lt_zero _)
  | m + 1, k, h, z => by
    rw [boN]
    by_cases e : k = m
    · subst e
      by_cases y : boN O W i k < W i k
      · rw [if_pos ⟨z, y⟩]; omega
      · rw [if_neg (fun q => y q.2)]; omega
    · have := boN_g (W := W) i m k (by omega) z
      split
      · rename_i y; omega
      · exact this
theorem s_bestOf (d m i : Nat) (O : Nat → Nat → Bool) (W : Nat → Nat → Int) (I : mm_I) (hi : i < m) (hm : m ≤ 6) (hW : ∀ i k, -9999 ≤ W i k ∧ W i k ≤ 9999) (h1 : ∀ k, k < 5 → I 200 0 (i * 5 + k) = nI (b2 (O i k))) (h2 : ∀ k, k < 5 → O i k = true → I 20 0 (i * 5 + k) = zI (W i k)) : Sn (d + 1) q_Choice_bestOf [.inr (0, 0), .inl (nI i)] I = some (some (.inl (zI (boN O W i 5))), (sh0, I)) := by
  rw [n_Choice_bestOf, e_Choice_bestOf_0]
  refine lpX (n := 5) (σ := Unit) (fun k _ => Rn d q_Choice_bestOf 1 [some (.inr (0, 0)), some (.inl (nI i)), some (.inl (zI (boN O W i k))), some (.inl (nI k))] [] I) (fun _ _ => True) (fun q => q = some (some (.inl (zI (boN O W i 5))), (sh0, I))) (fun k _ hk _ => Or.inr ⟨(), trivial, ?_⟩) (fun _ _ => ?_) 0 () (Nat.zero_le _) trivial
  · have l200 := h1 k hk
    have hb := boN_b (O := O) hW i k
    have hWk := hW i k
    have t1 : 0 ≤ (nI (i * 5 + k)).toInt ∧ (nI (i * 5 + k)).toInt < ((30 : Nat) : Int) := by rw [nI_toInt (by omega)]; omega
    have ix : nI i * (5 : Int32) + nI k = nI (i * 5 + k) := by rw [show (5 : Int32) = nI 5 from rfl, nml, nad]
    have nk : nI k + (1 : Int32) = nI (k + 1) := nad k 1
    rw [e_Choice_bestOf_1, if_pos (by rw [show (5 : Int32) = nI 5 from rfl, nlt (by omega) (by omega)]; exact hk), e_Choice_bestOf_2, ix, if_pos t1, nN (by omega), l200, boN]
    cases z : O i k with
    | false =>
      rw [if_pos (show nI (b2 false) = 0 from rfl), e_Choice_bestOf_4, nk, if_neg (fun q => by cases q.1)]
    | true =>
      have l20 := h2 k hk z
      rw [if_neg (show ¬ nI (b2 true) = 0 by decide), e_Choice_bestOf_3, ix, if_pos t1, nN (by omega), l20, e_Choice_bestOf_4, nk]
      by_cases y : boN O W i k < W i k
      · have y2 : zI (boN O W i k) < zI (W i k) := by rw [zlt (by omega) (by omega) (by omega) (by omega)]; exact y
        rw [if_pos y2, if_pos (show true = true ∧ boN O W i k < W i k from ⟨rfl, y⟩)]
      · have y2 : ¬ zI (boN O W i k) < zI (W i k) := by rw [zlt (by omega) (by omega) (by omega) (by omega)]; exact y
        rw [if_neg y2, if_neg (show ¬ (true = true ∧ boN O W i k < W i k) from fun q => y q.2)]
  · rw [e_Choice_bestOf_1, if_neg (by decide), e_Choice_bestOf_5]
/-- before the hopes are worked out -/
def CM0 (m : Nat) (O : Nat → Nat → Bool) (W : Nat → Nat → Int) (P : Nat → Nat → Nat) (c : Nat) (I : mm_I) : Prop := I 0 0 6 = nI m ∧ I 0 0 7 = nI c ∧ (∀ i k, i < m → k < 5 → I 200 0 (i * 5 + k) = nI (b2 (O i k))) ∧ ∀ i k, i < m → k < 5 → O i k = true → I 20 0 (i * 5 + k) = zI (W i k) ∧ I 21 0 (i * 5 + k) = nI (P i k)
theorem s_chFind (d m c : Nat) (O : Nat → Nat → Bool) (W : Nat → Nat → Int) (P : Nat → Nat → Nat) (I : mm_I) (hm : m ≤ 6) (hc : c ≤ 999999) (h0 : ∀ i, O i 0 = true ∧ P i 0 = 0) (hW0 : ∀ i, W i 0 = 0) (hW : ∀ i k, -9999 ≤ W i k ∧ W i k ≤ 9999) (hP : ∀ i k, P i k ≤ 99999) (hC : CM0 m O W P c I) : ∃ I', Sn (d + 9) q_Choice_findBest [.inr (0, 0)] I = some (none, (sh0, I')) ∧ eqo [0, 22, 23, 24] I I' ∧ BMt m (cf O W P c m 0 0 0 (fun _ => 0) none) I' := by
  obtain ⟨r1, r2, r3, r4⟩ := hC
  have hbo : ∀ i, 0 ≤ boN O W i 5 ∧ boN O W i 5 ≤ 9999 := fun i => boN_b hW i 5
  have k0 : Sn (d + 9) q_Choice_findBest [.inr (0, 0)] I = Rn (d + 8) q_Choice_findBest 1 [some (.inr (0, 0)), some (.inl (zI ((m : Int) - 1)))] [] (mm_up I 22 0 m (zI 0)) := by
    have x1 : mm_up I 22 0 m (0 : Int32) 0 0 6 = nI m := by rw [up_F (by omega)]; exact r1
    have x2 : nI m - (1 : Int32) = zI ((m : Int) - 1) := zsb (a := m) (b := 1) (by omega) (by omega)
    rw [n_Choice_findBest, e_Choice_findBest_0, r1, if_pos (by rw [nI_toInt (by omega)]; omega), nN (by omega), x1, x2]
    rfl
  rw [k0]
  refine lpX (n := m) (σ := mm_I) (fun j K => Rn (d + 8) q_Choice_findBest 1 [some (.inr (0, 0)), some (.inl (zI ((m : Int) - 1 - j)))] [] K) (fun j K => eqo [22] I K ∧ ∀ i, i ≤ m → m - j ≤ i → K 22 0 i = zI (hI (fun i => boN O W i 5) (m - i) i)) (fun q => ∃ I', q = some (none, (sh0, I')) ∧ eqo [0, 22, 23, 24] I I' ∧ BMt m (cf O W P c m 0 0 0 (fun _ => 0) none) I') ?_ ?_ 0 (mm_up I 22 0 m (zI 0)) (Nat.zero_le _) ⟨eqo_up (eqo_rf _ _) (by decide), fun i h1 h2 => ?_⟩ |> (fun q => by rw [show (m : Int) - 1 - ((0 : Nat) : Int) = (m : Int) - 1 by omega] at q; exact q)
  · rintro j K hj ⟨k1, k2⟩
    right
    have e1 : zI ((m : Int) - 1 - j) = nI (m - 1 - j) := by rw [zn _ (by omega)]; congr 1; omega
    have e2 : nI (m - 1 - j) + (1 : Int32) = nI (m - j) := by rw [show (1 : Int32) = nI 1 from rfl, nad, show m - 1 - j + 1 = m - j by omega]
    have e3 : zI ((m : Int) - 1 - j) + (-1 : Int32) = zI ((m : Int) - 1 - ((j + 1 : Nat) : Int)) := by
      rw [show (-1 : Int32) = zI (-1) from rfl, zad]; congr 1; omega
    have l22 := k2 (m - j) (by omega) (Nat.le_refl _)
    have bs := s_bestOf (d + 7) m (m - 1 - j) O W K (by omega) hm hW (fun k hk => by rw [k1 200 (by decide)]; exact r3 _ k (by omega) hk) (fun k hk z => by rw [k1 20 (by decide)]; exact (r4 _ k (by omega) hk z).1)
    have hst : hI (fun i => boN O W i 5) (m - (m - 1 - j)) (m - 1 - j) = boN O W (m - 1 - j) 5 + hI (fun i => boN O W i 5) (m - (m - j)) (m - j) := by
      rw [show m - (m - 1 - j) = (m - (m - j)) + 1 by omega, hI, show m - 1 - j + 1 = m - j by omega]
    refine ⟨mm_up K 22 0 (m - 1 - j) (zI (hI (fun i => boN O W i 5) (m - (m - 1 - j)) (m - 1 - j))), ⟨eqo_up k1 (by decide), fun i h1 h2 => ?_⟩, ?_⟩
    · by_cases z : i = m - 1 - j
      · rw [z, up_s]
      · rw [up_F (by omega)]; exact k2 i h1 (by omega)
    · show Rn (d + 8) q_Choice_findBest 1 [some (.inr (0, 0)), some (.inl (zI ((m : Int) - 1 - j)))] [] K = Rn (d + 8) q_Choice_findBest 1 [some (.inr (0, 0)), some (.inl (zI ((m : Int) - 1 - ((j + 1 : Nat) : Int))))] [] _
      rw [← e3, e1, e_Choice_findBest_1, if_neg (by rw [show (0 : Int32) = nI 0 from rfl, nlt (by omega) (by omega)]; omega), e_Choice_findBest_2, e2, if_pos (by rw [nI_toInt (by omega)]; omega), nN (by omega), bs, bd_s, ct_s, l22]
      refine (e_Choice_findBest_3 (d + 8) (nI (m - 1 - j)) (nI (m - 1 - j)) _ _ K).trans ?_
      rw [if_pos (by rw [nI_toInt (by omega)]; omega), nN (by omega), zad, hst, Int.add_comm (boN O W (m - 1 - j) 5)]
  · rintro K ⟨k1, k2⟩
    have e3 : eqo [0] K (mm_up (mm_up K 0 0 8 (zI (-1))) 0 0 9 (nI 0)) := eqo_up (eqo_up (eqo_rf _ _) (by decide)) (by decide)
    obtain ⟨I', p1, p2, p3, p4, p5, p6⟩ := s_chPick (d + 7 - m) m c O W P (fun i => boN O W i 5) hm hc h0 hW0 hW hP (fun i k hk z => boN_g i 5 k hk z) hbo m 0 0 0 (fun _ => 0) none (mm_up (mm_up K 0 0 8 (zI (-1))) 0 0 9 (nI 0)) (Nat.zero_add _) ⟨by rw [up_F (by omega), up_F (by omega), k1 0 (by decide)]; exact r1, by rw [up_F (by omega), up_F (by omega), k1 0 (by decide)]; exact r2, fun i k hi hk => by rw [e3 200 (by decide), k1 200 (by decide)]; exact r3 i k hi hk, fun i k hi hk z => by rw [e3 20 (by decide), e3 21 (by decide), k1 20 (by decide), k1 21 (by decide)]; exact r4 i k hi hk z, fun i hi => by rw [e3 22 (by decide)]; exact k2 i hi (by omega)⟩ ⟨by rw [up_F (by omega), up_s], by rw [up_s]⟩ (by omega) (by omega) (by omega) (fun _ => Int.le_refl _) (fun k hk => absurd hk (Nat.not_lt_zero _))
    refine ⟨I', ?_, eqo_tr (eqo_mono k1 (by decide)) (eqo_tr (eqo_mono e3 (by decide)) (eqo_mono p2 (by decide))), p6⟩
    rw [show d + 7 - m + 1 + m = d + 8 by omega] at p1
    show Rn (d + 8) q_Choice_findBest 1 [some (.inr (0, 0)), some (.inl (zI ((m : Int) - 1 - m)))] [] K = _
    rw [show (m : Int) - 1 - m = -1 by omega, e_Choice_findBest_1, if_pos (by decide), e_Choice_findBest_4]
    have p1' : Sn (d + 8) q_Choice_pick [.inr (0, 0), .inl 0, .inl 0, .inl 0] (mm_up (mm_up K 0 0 8 (-1)) 0 0 9 0) = some (none, (sh0, I')) := p1
    rw [p1', bd_s, ct_n]
    exact e_Choice_findBest_5 (d + 8) _ I'
  · rw [show i = m by omega, up_s, show m - m = 0 by omega]; rfl
