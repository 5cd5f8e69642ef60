/-! Inv behind the constructors. -/
theorem ce_i {x y : Int32} (h : ceI x y = true) : x = y := of_decide_eq_true h
theorem good_0 : Good A00 := by
  have hH : ∀ t, t < 7 → A00 0 0 (tH t) = 0 := by decide
  refine ⟨by decide, fun t ht => by rw [hH t ht]; exact Nat.zero_le _, fun p hp => absurd hp (Nat.not_lt_zero _), fun y _ => by show 5 ≤ 20; decide, fun r hr => absurd hr (Nat.not_lt_zero _), fun r hr => absurd hr (Nat.not_lt_zero _), fun r hr => absurd hr (Nat.not_lt_zero _), fun r hr => absurd hr (Nat.not_lt_zero _), fun r hr => absurd hr (Nat.not_lt_zero _), fun r hr => absurd hr (Nat.not_lt_zero _), fun r hr => absurd hr (Nat.not_lt_zero _), fun r hr => absurd hr (Nat.not_lt_zero _)⟩
theorem Inv_0 {I : mm_I} (h1 : ck_1 I = true) (h2 : ck_2 I = true) (h3 : ck_3 I = true) : Inv I := by
  unfold ck_1 at h1
  simp only [Bool.and_eq_true] at h1
  obtain ⟨⟨⟨⟨⟨⟨⟨⟨⟨⟨⟨⟨⟨⟨⟨⟨⟨a1, a2⟩, a3⟩, a4⟩, a5⟩, a6⟩, a7⟩, a8⟩, a9⟩, a10⟩, a11⟩, a12⟩, a13⟩, a14⟩, a15⟩, a16⟩, a17⟩, a18⟩ := h1
  have hH : ∀ t, t < 7 → A00 0 0 (tH t) = 0 := by decide
  refine ⟨⟨fun r hr => ?_, ⟨ce_i a9, fun k hk => ce_i (ckA_i a10 k hk), fun k hk => ce_i (ckA_i a11 k hk)⟩, ⟨0, fun _ => 0, by decide, ce_i a12, ce_i a13, fun k hk => absurd hk (Nat.not_lt_zero _)⟩, fun c hc => ?_, fun h hh => ?_, ⟨0, by decide, ce_i a15, ce_i a16, fun k hk => absurd hk (Nat.not_lt_zero _)⟩⟩, A00, ⟨⟨ce_i a1, ce_i a2, ce_i a3, ce_i a4, ce_i a5⟩, fun t ht => ?_, fun p hp => absurd hp (Nat.not_lt_zero _), fun y hy => ?_, fun r hr => absurd hr (Nat.not_lt_zero _), fun t r c ht hr => ?_⟩, ⟨fun c hc => ce_i (ckA_i a7 c hc), fun p c hp => absurd hp (Nat.not_lt_zero _), fun y hy => ?_, fun r hr => absurd hr (Nat.not_lt_zero _), fun t r c ht hr => ?_⟩, good_0, by decide, Or.inl ⟨ce_i a17, ce_i a18⟩⟩
  · have := ckA_i a8 r hr
    rw [Bool.and_eq_true] at this
    exact ⟨ce_i this.1, ce_i this.2⟩
  · have := ckA_i h2 c hc
    simp only [Bool.and_eq_true] at this
    obtain ⟨⟨⟨⟨b1, b2'⟩, b3⟩, b4⟩, b5⟩ := this
    refine ⟨-nI 1, 0, Or.inl rfl, by decide, ce_i b1, ce_i b2', ce_i b3, ce_i b4, fun k hk => ?_⟩
    have := ckA_i b5 k hk
    rw [Bool.and_eq_true] at this
    rw [ce_i this.1, ce_i this.2]
    exact ⟨Or.inr ⟨0, by decide, rfl⟩, rfl⟩
  · have := ckA_i a14 h hh
    rw [Bool.and_eq_true] at this
    exact ⟨0, by decide, ce_i this.1, ce_i this.2, fun q => absurd q (by decide), fun q => absurd q (by decide)⟩
  · rw [hH t ht]
    have := ce_i (ckA_i a6 t ht)
    rw [show 7 * 0 + t = t by omega]
    exact this
  · have := ckA_i h3 y hy
    rw [Bool.and_eq_true] at this
    exact ce_i this.1
  · rw [hH t ht] at hr; exact absurd hr (Nat.not_lt_zero _)
  · have := ckA_i h3 y hy
    rw [Bool.and_eq_true] at this
    exact ce_i this.2
  · rw [hH t ht] at hr; exact absurd hr (Nat.not_lt_zero _)
theorem Inv_ov {X : Nat → Nat → Int32} {sh : mm_Sh} {I : mm_I} (h1 : ck_1 I = true) (h2 : ck_2 I = true) (h3 : ck_3 I = true) : Inv (ovM X (sh, I)).2 := by
  have e : ∀ k i j, k ≠ 199 → (ovM X (sh, I)).2 k i j = I k i j := fun k i j hk => if_neg hk
  refine Inv_0 ?_ ?_ ?_
  · unfold ck_1 at h1 ⊢
    simp only [e _ _ _ (show (3 : Nat) ≠ 199 by decide), e _ _ _ (show (7 : Nat) ≠ 199 by decide), e _ _ _ (show (47 : Nat) ≠ 199 by decide), e _ _ _ (show (12 : Nat) ≠ 199 by decide), e _ _ _ (show (53 : Nat) ≠ 199 by decide), e _ _ _ (show (210 : Nat) ≠ 199 by decide), e _ _ _ (show (5 : Nat) ≠ 199 by decide), e _ _ _ (show (4 : Nat) ≠ 199 by decide), e _ _ _ (show (68 : Nat) ≠ 199 by decide), e _ _ _ (show (11 : Nat) ≠ 199 by decide)]
    exact h1
  · unfold ck_2 at h2 ⊢
    simp only [e _ _ _ (show (1 : Nat) ≠ 199 by decide), e _ _ _ (show (64 : Nat) ≠ 199 by decide), e _ _ _ (show (65 : Nat) ≠ 199 by decide), e _ _ _ (show (25 : Nat) ≠ 199 by decide), e _ _ _ (show (66 : Nat) ≠ 199 by decide)]
    exact h2
  · unfold ck_3 at h3 ⊢
    simp only [e _ _ _ (show (28 : Nat) ≠ 199 by decide), e _ _ _ (show (47 : Nat) ≠ 199 by decide)]
    exact h3
/-- both constructors, one after the other, over any script -/
theorem cz_run (X : Nat → Nat → Int32) (d : Nat) : ∃ q1 q2 : mm_R, mm_S PP NN (d + 4) q_H_init [.inr (11, 0)] (mm_newk (ovM X cz_e) 11 0 17) = some (q1.1, ovM X q1.2) ∧ mm_S PP NN (d + 4) q_M_init [.inr (12, 0)] (mm_newk (ovM X q1.2) 12 0 50) = some (q2.1, ovM X q2.2) ∧ cz_r = some q2 ∧ cz_chk q2.2 = true ∧ Inv (ovM X q2.2).2 ∧ cz_h = some q1 := by
  have c3 := cz_3
  have c4 := cz_4
  have c5 := cz_5
  have c6 := cz_6
  have mono : ∀ e m as μ r, mm_S PP NN 4 m as μ = some r → mm_S PP NN (e + 4) m as μ = some r := by
    have st : ∀ d, (∀ m as μ r, mm_S PP NN d m as μ = some r → mm_S PP NN (d + 1) m as μ = some r) := by
      intro d
      induction d with
      | zero => intro m as μ r h; cases h
      | succ d ih =>
        intro m as μ r h
        obtain ⟨n, hn⟩ := mm_l_spec (show mm_l PP (mm_S PP NN d) m 0 _ [] μ = some r from h)
        exact mm_l_some (mm_y_S ih hn)
    intro e
    induction e with
    | zero => intro m as μ r h; rw [Nat.zero_add]; exact h
    | succ e ih =>
      intro m as μ r h
      have := st (e + 4) m as μ r (ih m as μ r h)
      rw [show e + 1 + 4 = e + 4 + 1 by omega]
      exact this
  cases hr : cz_r with
  | none => rw [hr] at c3; cases c3
  | some q2 =>
    rw [hr] at c3 c4 c5 c6
    dsimp only at c3 c4 c5 c6
    cases hh : cz_h with
    | none => unfold cz_r at hr; rw [hh] at hr; cases hr
    | some q1 =>
      have hr2 : mm_Sc PP NN 600 4 q_M_init [.inr (12, 0)] (mm_newk q1.2 12 0 50) = some q2 := by
        have := hr
        unfold cz_r at this
        rw [hh, bd_s] at this
        exact this
      have s1 := mm_Sc_ok 4 q_H_init [.inr (11, 0)] (mm_newk cz_e 11 0 17) q1 hh
      have s2 := mm_Sc_ok 4 q_M_init [.inr (12, 0)] (mm_newk q1.2 12 0 50) q2 hr2
      have n1 : nS [.inr (11, 0)] := nS_c (show (11 : Nat) ≠ 199 by decide) (fun v hv => absurd hv List.not_mem_nil)
      have n2 : nS [.inr (12, 0)] := nS_c (show (12 : Nat) ≠ 199 by decide) (fun v hv => absurd hv List.not_mem_nil)
      have o1 := (ov_S (X := X) (N := NN) okB_PP (d + 4) _ _ _ _ n1 (mono d _ _ _ _ s1)).1
      have o2 := (ov_S (X := X) (N := NN) okB_PP (d + 4) _ _ _ _ n2 (mono d _ _ _ _ s2)).1
      exact ⟨q1, q2, o1, o2, rfl, c3, Inv_ov (sh := q2.2.1) c4 c5 c6, rfl⟩
