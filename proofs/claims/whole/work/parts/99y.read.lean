/-! The class reads a text. -/
theorem s_upOr {d o k : Nat} (h : SP6 (d + 4) o k) : SP (d + 9) q_Reader_readOr 1 o k := s_readOr (d + 4) o k (s_readAnd (d + 3) o k (s_readTest (d + 2) o k (s_readTerms (d + 1) o k (s_readTerm d o k (SP_of6 h)))))
theorem s_parts (d : Nat) : ∀ m o k, 6 * (8 - o) + (8 - k) = m → SP6 (d + m + 5) o k := by
  intro m
  induction m using Nat.strongRecOn with
  | ind m ih =>
    intro o k hm
    refine s_Part (d + m) o k (fun hk => ?_) (fun ho => ?_)
    · have := ih (m - 1) (by omega) o (k + 1) (by omega)
      rw [show d + (m - 1) + 5 = d + m + 4 by omega] at this
      exact this
    · have := ih (m - 6) (by omega) (o + 1) k (by omega)
      rw [show d + (m - 6) + 5 = (d + m - 5) + 4 by omega] at this
      have h2 := s_upOr this
      rw [show d + m - 5 + 9 = d + m + 4 by omega] at h2
      exact h2
theorem s_Or0 (d : Nat) : SP (d + 66) q_Reader_readOr 1 0 0 := by
  have := s_parts d 56 0 0 (by decide)
  exact s_upOr (d := d + 57) this
def wdT : List (List Nat) := [[108, 101, 97, 118, 101], [115, 104, 117, 116], [112, 114, 105, 99, 101], [119, 97, 115, 104]]
def wlN (k : Nat) : Nat := (mm_at [] wdT k).length
def wcN (k i : Nat) : Nat := mm_at 0 (mm_at [] wdT k) i
theorem wl_e : ∀ k, k < 4 → mm_slen k = nI (wlN k) ∧ wlN k ≤ 5 := by decide
theorem wc_e : ∀ k, k < 4 → ∀ i, i < 5 → i < wlN k → mm_sch k i = nI (wcN k i) ∧ wcN k i ≤ 255 := by decide
/-- the k-th word stands here -/
def kyW (T : Nat → Nat) (x : LX) (k : Nat) : Bool := x.2.2 - x.2.1 == wlN k && !an (fun i => !(T (x.2.1 + i) == wcN k i)) (wlN k)
def kyK (T : Nat → Nat) (x : LX) : Option Nat := if x.1 = 257 then fs (kyW T x) 0 4 else none
theorem s_wordOf (d k : Nat) (I : mm_I) (hk : k < 4) : Sn (d + 1) q_Reader_wordOf [.inl (nI k)] I = some (some (.inr (13, k)), (sh0, I)) := by
  rcases (show k = 0 ∨ k = 1 ∨ k = 2 ∨ k = 3 by omega) with e | e | e | e <;> subst e <;> simp (disch := omega) only [n_Reader_wordOf, e_Reader_wordOf_0, e_Reader_wordOf_1, e_Reader_wordOf_2, e_Reader_wordOf_3, e_Reader_wordOf_4, lit, nad, nml, bd_s, ct_s, ct_n, a11, a01, aB2, bitA, nlt, nle, neq, dlT, dlF, deT, deF, dqT, dqF, nN, inb, nsb, ndv, nrm, if_true, if_false, ite_true, ite_false, true_and, and_true, and_self, and_false, false_and, or_true, true_or, or_false, false_or, or_self, ↓reduceIte, eq_self, Nat.reduceAdd, Nat.reduceMul, Nat.reduceSub, Nat.reduceDiv, Nat.reduceMod, Nat.zero_add, Nat.mul_zero, not_true_eq_false, not_false_eq_true, up_T, up_F, wr_T, wr_F, ngE, ngE', ngL, ngL', ngQ, ngQ']
theorem s_isWord (d n k : Nat) (T : Nat → Nat) (kx : Int32) (x : LX) (C : List Nat) (a : Nat) (I : mm_I) (h : RD T n kx x C a I) (hw : WX T n x) (h7 : x.1 ≠ 256) (hk : k < 4) : Sn (d + 1) q_Reader_isWord [.inr (5, 0), .inr (13, k)] I = some (some (.inl (nI (b2 (kyW T x k)))), (sh0, I)) := by
  obtain ⟨-, hx2, q | ⟨-, q1, -⟩⟩ := hw
  · omega
  have hn := h.1.1
  have l7 : I 5 0 7 = nI x.2.1 := h.2.1.2.1
  have l8 : I 5 0 8 = nI x.2.2 := h.2.1.2.2
  obtain ⟨w1, w2⟩ := wl_e k hk
  unfold kyW
  by_cases e : x.2.2 - x.2.1 = wlN k
  rotate_left
  · rw [beq_eq_false_iff_ne.mpr e, Bool.false_and]
    simp (disch := omega) only [n_Reader_isWord, e_Reader_isWord_0, e_Reader_isWord_1, lit, nad, nml, bd_s, ct_s, ct_n, a11, a01, aB2, bitA, nlt, nle, neq, dlT, dlF, deT, deF, dqT, dqF, nN, inb, nsb, ndv, nrm, if_true, if_false, ite_true, ite_false, true_and, and_true, and_self, and_false, false_and, or_true, true_or, or_false, false_or, or_self, ↓reduceIte, eq_self, Nat.reduceAdd, Nat.reduceMul, Nat.reduceSub, Nat.reduceDiv, Nat.reduceMod, Nat.zero_add, Nat.mul_zero, not_true_eq_false, not_false_eq_true, up_T, up_F, wr_T, wr_F, ngE, ngE', ngL, ngL', ngQ, ngQ', l7, l8, w1, b2F]
  · rw [beq_iff_eq.mpr e, Bool.true_and]
    have st : Sn (d + 1) q_Reader_isWord [.inr (5, 0), .inr (13, k)] I = Rn d q_Reader_isWord 3 [some (.inr (5, 0)), some (.inr (13, k)), some (.inl (nI 0))] [] I := by
      simp (disch := omega) only [n_Reader_isWord, e_Reader_isWord_0, e_Reader_isWord_2, lit, nad, nml, bd_s, ct_s, ct_n, a11, a01, aB2, bitA, nlt, nle, neq, dlT, dlF, deT, deF, dqT, dqF, nN, inb, nsb, ndv, nrm, if_true, if_false, ite_true, ite_false, true_and, and_true, and_self, and_false, false_and, or_true, true_or, or_false, false_or, or_self, ↓reduceIte, eq_self, Nat.reduceAdd, Nat.reduceMul, Nat.reduceSub, Nat.reduceDiv, Nat.reduceMod, Nat.zero_add, Nat.mul_zero, not_true_eq_false, not_false_eq_true, up_T, up_F, wr_T, wr_F, ngE, ngE', ngL, ngL', ngQ, ngQ', l7, l8, w1]
    rw [st]
    refine lpX (n := wlN k) (σ := Unit) (fun i _ => Rn d q_Reader_isWord 3 [some (.inr (5, 0)), some (.inr (13, k)), some (.inl (nI i))] [] I) (fun i _ => an (fun i => !(T (x.2.1 + i) == wcN k i)) i = false) (fun q => q = some (some (.inl (nI (b2 (!an (fun i => !(T (x.2.1 + i) == wcN k i)) (wlN k))))), (sh0, I))) (fun i _ hi hV => ?_) (fun _ hV => ?_) 0 () (Nat.zero_le _) rfl
    · obtain ⟨v1, v2⟩ := wc_e k hk i (by omega) hi
      obtain ⟨b1, l29⟩ := h.1.2.2 (x.2.1 + i) (by omega)
      have sl : (mm_slen k).toInt = (wlN k : Int) := by rw [w1, nI_toInt (by omega)]
      have st2 : Rn d q_Reader_isWord 3 [some (.inr (5, 0)), some (.inr (13, k)), some (.inl (nI i))] [] I = if T (x.2.1 + i) = wcN k i then Rn d q_Reader_isWord 6 [some (.inr (5, 0)), some (.inr (13, k)), some (.inl (nI i))] [] I else Rn d q_Reader_isWord 5 [some (.inr (5, 0)), some (.inr (13, k)), some (.inl (nI i))] [] I := by
        rw [e_Reader_isWord_3, w1, if_pos (by rw [nlt (by omega) (by omega)]; exact hi), e_Reader_isWord_4, l7, nad, if_pos (by rw [nI_toInt (by omega)]; omega), if_pos (by rw [sl, nI_toInt (by omega)]; omega), nN (by omega), nN (by omega), l29, v1]
        by_cases z : T (x.2.1 + i) = wcN k i
        · rw [if_pos z, if_pos (by rw [z])]
        · rw [if_neg z, if_neg (by rw [neq (by omega) (by omega)]; exact z)]
      rw [st2]
      by_cases z : T (x.2.1 + i) = wcN k i
      · right
        refine ⟨(), ?_, ?_⟩
        · rw [an, hV, beq_iff_eq.mpr z]; rfl
        · rw [if_pos z, e_Reader_isWord_6, show nI i + (1 : Int32) = nI (i + 1) from nad i 1]
      · left
        have : an (fun i => !(T (x.2.1 + i) == wcN k i)) (wlN k) = true := an_iff.mpr ⟨i, hi, by rw [beq_eq_false_iff_ne.mpr z]; rfl⟩
        rw [if_neg z, this, e_Reader_isWord_5]
        rfl
    · rw [hV, e_Reader_isWord_3, w1, if_neg (by rw [nlt (by omega) (by omega)]; omega), e_Reader_isWord_7]
      rfl
theorem s_keyHere (d n : Nat) (T : Nat → Nat) (kx : Int32) (x : LX) (C : List Nat) (a : Nat) (I : mm_I) (h : RD T n kx x C a I) (hw : WX T n x) : Sn (d + 2) q_Reader_keyHere [.inr (5, 0)] I = some (some (.inl (match kyK T x with
    | some k => nI k
    | none => -nI 1)), (sh0, I)) := by
  have l6 : I 5 0 6 = nI x.1 := h.2.1.1
  have hx1 := hw.1
  unfold kyK
  rw [n_Reader_keyHere, e_Reader_keyHere_0]
  by_cases e : x.1 = 257
  rotate_left
  · rw [if_neg e]
    refine lpX (n := 4) (σ := Unit) (fun i _ => Rn (d + 1) q_Reader_keyHere 1 [some (.inr (5, 0)), some (.inl (nI i))] [] I) (fun _ _ => True) (fun q => q = _) (fun i _ hi _ => Or.inr ⟨(), trivial, ?_⟩) (fun _ _ => ?_) 0 () (Nat.zero_le _) trivial
    · simp (disch := omega) only [e_Reader_keyHere_2, e_Reader_keyHere_7, e_Reader_keyHere_1 (x1 := nI i), lit, nad, nml, bd_s, ct_s, ct_n, a11, a01, aB2, bitA, nlt, nle, neq, dlT, dlF, deT, deF, dqT, dqF, nN, inb, nsb, ndv, nrm, if_true, if_false, ite_true, ite_false, true_and, and_true, and_self, and_false, false_and, or_true, true_or, or_false, false_or, or_self, ↓reduceIte, eq_self, Nat.reduceAdd, Nat.reduceMul, Nat.reduceSub, Nat.reduceDiv, Nat.reduceMod, Nat.zero_add, Nat.mul_zero, not_true_eq_false, not_false_eq_true, up_T, up_F, wr_T, wr_F, ngE, ngE', ngL, ngL', ngQ, ngQ', l6]
    · rw [e_Reader_keyHere_1, if_neg (by decide), e_Reader_keyHere_8]
      rfl
  · rw [if_pos e]
    have key := lpE (n := 4) (fun i => Rn (d + 1) q_Reader_keyHere 1 [some (.inr (5, 0)), some (.inl (nI i))] [] I) (kyW T x) (fun i => some (some (.inl (nI i)), (sh0, I))) (fun i hi => ?_) 4 0 rfl
    · refine key.trans ?_
      cases fs (kyW T x) 0 4 with
      | some j => rfl
      | none =>
        show Rn (d + 1) q_Reader_keyHere 1 [some (.inr (5, 0)), some (.inl (nI 4))] [] I = _
        rw [e_Reader_keyHere_1, if_neg (by decide), e_Reader_keyHere_8]
        rfl
    · have iw := s_isWord d n i T kx x C a I h hw (by omega) hi
      have wo := s_wordOf d i I hi
      cases z : kyW T x i with
      | true =>
        rw [z] at iw
        rw [if_pos rfl]
        simp (disch := omega) only [e_Reader_keyHere_2, e_Reader_keyHere_3, e_Reader_keyHere_4, e_Reader_keyHere_5, e_Reader_keyHere_6, e_Reader_keyHere_1 (x1 := nI i), lit, nad, nml, bd_s, ct_s, ct_n, a11, a01, aB2, bitA, nlt, nle, neq, dlT, dlF, deT, deF, dqT, dqF, nN, inb, nsb, ndv, nrm, if_true, if_false, ite_true, ite_false, true_and, and_true, and_self, and_false, false_and, or_true, true_or, or_false, false_or, or_self, ↓reduceIte, eq_self, Nat.reduceAdd, Nat.reduceMul, Nat.reduceSub, Nat.reduceDiv, Nat.reduceMod, Nat.zero_add, Nat.mul_zero, not_true_eq_false, not_false_eq_true, up_T, up_F, wr_T, wr_F, ngE, ngE', ngL, ngL', ngQ, ngQ', l6, wo, iw, b2T]
      | false =>
        rw [z] at iw
        rw [if_neg (by decide)]
        simp (disch := omega) only [e_Reader_keyHere_2, e_Reader_keyHere_3, e_Reader_keyHere_4, e_Reader_keyHere_5, e_Reader_keyHere_7, e_Reader_keyHere_1 (x1 := nI i), lit, nad, nml, bd_s, ct_s, ct_n, a11, a01, aB2, bitA, nlt, nle, neq, dlT, dlF, deT, deF, dqT, dqF, nN, inb, nsb, ndv, nrm, if_true, if_false, ite_true, ite_false, true_and, and_true, and_self, and_false, false_and, or_true, true_or, or_false, false_or, or_self, ↓reduceIte, eq_self, Nat.reduceAdd, Nat.reduceMul, Nat.reduceSub, Nat.reduceDiv, Nat.reduceMod, Nat.zero_add, Nat.mul_zero, not_true_eq_false, not_false_eq_true, up_T, up_F, wr_T, wr_F, ngE, ngE', ngL, ngL', ngQ, ngQ', l6, wo, iw, b2F]
def t00 : Nat → Bool := fun _ => false
theorem rn_a {T : Nat → Nat} {n key : Nat} : ∀ {f x w W C a o k t r}, rn T n key f x w W C a o k t = some r → a ≤ C.length → r.1 = true → r.2.2.2 ≤ r.2.2.1.length := by
  have sg : ∀ (l : Nat) (W C : List Nat), C.length ≤ (stl l W C).2.length := by
    intro l W
    induction W with
    | nil => intro C; exact Nat.le_refl _
    | cons c W ih =>
      intro C
      rw [stl]
      split
      · exact Nat.le_refl _
      · exact Nat.le_trans (by rw [List.length_append]; omega) (ih (C ++ [c]))
  intro f
  induction f with
  | zero => intro x w W C a o k t r h; cases w <;> cases h
  | succ f ih =>
    intro x w W C a o k t r h ha hr
    cases w with
    | true =>
      rw [rn] at h
      split at h
      · exact ih h ha hr
      · split at h
        · exact ih h ha hr
        · split at h
          · rename_i c _
            refine ih h ?_ hr
            have := sg 6 W (C ++ [c])
            rw [List.length_append, List.length_singleton] at this
            omega
          · cases h; cases hr
    | false =>
      rw [rn] at h
      split at h
      · split at h
        · cases h; exact Nat.le_trans ha (sg 0 W C)
        · cases h; cases hr
      · split at h
        · refine ih h ?_ hr
          have h1 := sg 0 W C
          have h2 := sg 6 (stl 0 W C).1.tail (stl 0 W C).2
          omega
        · split at h
          · cases h; cases hr
          · refine ih h ?_ hr
            have h1 := sg (rkS x.1) W C
            omega
/-- what a text is, or where its fault is -/
def TXo (T : Nat → Nat) (n : Nat) (z : Nat ⊕ (Nat × List Nat × Nat)) : Prop :=
  (kyK T (nxT T n (256, 0, 0)) = none ∧ z = .inl (nxT T n (256, 0, 0)).2.1) ∨
  ∃ key r, kyK T (nxT T n (256, 0, 0)) = some key ∧ RR T n key (nxT T n (nxT T n (256, 0, 0))) true [] [] 0 0 0 t00 r ∧ z = if r.1 = true then .inr (key, r.2.2) else .inl r.2.1
theorem kyK_b {T : Nat → Nat} {x : LX} {key : Nat} (h : kyK T x = some key) : key < 4 ∧ x.1 = 257 := by
  unfold kyK at h
  split at h
  · rename_i e
    have := fs_some h
    exact ⟨by omega, e⟩
  · cases h
theorem s_readText (d n : Nat) (T : Nat → Nat) (I : mm_I) (hT : TC T n I) : ∃ I' z, eqo [5, 30] I I' ∧ TXo T n z ∧ (match z with
    | .inl p => p ≤ 96 ∧ Sn (d + 67) q_Reader_readText [.inr (5, 0)] I = some (some (.inl (nI p)), (sh0, I'))
    | .inr (key, C, a) => Sn (d + 67) q_Reader_readText [.inr (5, 0)] I = some (some (.inl (-nI 1)), (sh0, I')) ∧ key < 4 ∧ I' 5 0 3 = nI C.length ∧ I' 5 0 4 = nI a ∧ I' 5 0 5 = nI key ∧ (∀ p, p < C.length → I' 30 0 p = nI (mm_at 0 C p)) ∧ C.length ≤ 96 ∧ a ≤ 96 ∧ okL C ∧ hgt C 0 = some 1) := by
  have hn := hT.1
  have hb : ∀ p, p < n → T p ≤ 255 := fun p hp => (hT.2.2 p hp).1
  have hT0 : TC T n (mm_up (mm_up (mm_up (mm_up I 5 0 3 (nI 0)) 5 0 4 (nI 0)) 5 0 6 (nI 256)) 5 0 8 (nI 0)) := TC_u (TC_u (TC_u (TC_u hT (by decide)) (by decide)) (by decide)) (by decide)
  have e0 : eqo [5, 30] I (mm_up (mm_up (mm_up (mm_up I 5 0 3 (nI 0)) 5 0 4 (nI 0)) 5 0 6 (nI 256)) 5 0 8 (nI 0)) := eqo_up (eqo_up (eqo_up (eqo_up (eqo_rf _ _) (by decide)) (by decide)) (by decide)) (by decide)
  obtain ⟨I1, a1, a2, a3⟩ := s_step (d + 64) n T (256, 0, 0) _ hT0 (by rw [up_F (by omega), up_s]) (by rw [up_s]) (Nat.zero_le _) (by decide)
  have nw := nx_w (x := (256, 0, 0)) (n := n) hb (Nat.zero_le _)
  have R1 : RD T n (I1 5 0 5) (nxT T n (256, 0, 0)) [] 0 I1 := by
    refine ⟨⟨hn, ?_, fun p hp => ⟨hb p hp, ?_⟩⟩, a2, ?_, ?_, rfl, fun p hp => absurd hp (Nat.not_lt_zero _)⟩
    · rw [a3.2 1 (by decide) (by decide) (by decide)]; exact hT0.2.1
    · rw [a3.1 29 (by decide)]; exact (hT0.2.2 p hp).2
    · rw [a3.2 3 (by decide) (by decide) (by decide), up_F (by omega), up_F (by omega), up_F (by omega), up_s]; rfl
    · rw [a3.2 4 (by decide) (by decide) (by decide), up_F (by omega), up_F (by omega), up_s]
  have kh := s_keyHere (d + 64) n T (I1 5 0 5) (nxT T n (256, 0, 0)) [] 0 I1 R1 nw.1
  have eq1 : eqo [5, 30] I I1 := eqo_tr e0 (eqo_mono a3.1 (by decide))
  unfold TXo
  generalize hx0 : nxT T n (256, 0, 0) = x0 at *
  have x0n := WX_s nw.1
  cases z : kyK T x0 with
  | none =>
    rw [z] at kh
    dsimp only at kh
    refine ⟨mm_up I1 5 0 5 (-nI 1), .inl x0.2.1, eqo_up eq1 (by decide), Or.inl ⟨rfl, rfl⟩, by omega, ?_⟩
    have l7 : I1 5 0 7 = nI x0.2.1 := a2.2.1
    simp (disch := omega) only [n_Reader_readText, e_Reader_readText_0, e_Reader_readText_1, e_Reader_readText_2, e_Reader_readText_3, lit, nad, nml, bd_s, ct_s, ct_n, a11, a01, aB2, bitA, nlt, nle, neq, dlT, dlF, deT, deF, dqT, dqF, nN, inb, nsb, ndv, nrm, if_true, if_false, ite_true, ite_false, true_and, and_true, and_self, and_false, false_and, or_true, true_or, or_false, false_or, or_self, ↓reduceIte, eq_self, Nat.reduceAdd, Nat.reduceMul, Nat.reduceSub, Nat.reduceDiv, Nat.reduceMod, Nat.zero_add, Nat.mul_zero, not_true_eq_false, not_false_eq_true, up_T, up_F, wr_T, wr_F, ngE, ngE', ngL, ngL', ngQ, ngQ', a1, kh, l7]
  | some key =>
    rw [z] at kh
    dsimp only at kh
    obtain ⟨hk, hx7⟩ := kyK_b z
    have R2 : RD T n (nI key) x0 [] 0 (mm_up I1 5 0 5 (nI key)) := by
      obtain ⟨b0, ⟨x1, x2, x3⟩, b3, b4, b5, b6⟩ := R1
      exact ⟨TC_u b0 (by decide), ⟨by rw [up_F (by omega)]; exact x1, by rw [up_F (by omega)]; exact x2, by rw [up_F (by omega)]; exact x3⟩, by rw [up_F (by omega)]; exact b3, by rw [up_F (by omega)]; exact b4, up_s _ _ _ _ _, fun p hp => absurd hp (Nat.not_lt_zero _)⟩
    obtain ⟨I2, c1, c2, c3⟩ := s_RDstep (d + 64) n T (nI key) x0 [] 0 _ R2 ⟨nw.1.1, nw.1.2.1⟩
    have nw2 := nx_w (x := x0) hb nw.1.2.1
    obtain ⟨b, I3, y, C1, a', q1, q2, q3, q4, q5, q6, q7⟩ := s_Or0 d (by decide) (by decide) T n key (nxT T n x0) [] [] 0 t00 0 I2 ⟨c2, hk, nw2.1, rfl, fun c hc => absurd hc (List.not_mem_nil), Nat.zero_le _, rfl⟩ (St_nil _) (fun _ => rfl)
    have eq3 : eqo [5, 30] I I3 := eqo_tr eq1 (eqo_tr (eqo_up (eqo_rf _ _) (by decide)) (eqo_tr c3 q2))
    have l6 : I3 5 0 6 = nI y.1 := q3.2.1.1
    have l7 : I3 5 0 7 = nI y.2.1 := q3.2.1.2.1
    have yn := WX_s q4
    have hy1 := q4.1
    have st : Sn (d + 67) q_Reader_readText [.inr (5, 0)] I = Rn (d + 66) q_Reader_readText 6 [some (.inr (5, 0))] [.inl (nI (b2 b))] I3 := by
      simp (disch := omega) only [n_Reader_readText, e_Reader_readText_0, e_Reader_readText_1, e_Reader_readText_2, e_Reader_readText_4, e_Reader_readText_5, lit, nad, nml, bd_s, ct_s, ct_n, a11, a01, aB2, bitA, nlt, nle, neq, dlT, dlF, deT, deF, dqT, dqF, nN, inb, nsb, ndv, nrm, if_true, if_false, ite_true, ite_false, true_and, and_true, and_self, and_false, false_and, or_true, true_or, or_false, false_or, or_self, ↓reduceIte, eq_self, Nat.reduceAdd, Nat.reduceMul, Nat.reduceSub, Nat.reduceDiv, Nat.reduceMod, Nat.zero_add, Nat.mul_zero, not_true_eq_false, not_false_eq_true, up_T, up_F, wr_T, wr_F, ngE, ngE', ngL, ngL', ngQ, ngQ', a1, kh, c1, q1]
    have bad : RR T n key (nxT T n x0) true [] [] 0 0 0 t00 (false, y.2.1, [], 0) → Rn (d + 66) q_Reader_readText 6 [some (.inr (5, 0))] [.inl (nI (b2 b))] I3 = some (some (.inl (nI (y.2.1))), (sh0, I3)) → ∃ I' : mm_I, ∃ z : Nat ⊕ (Nat × List Nat × Nat), eqo [5, 30] I I' ∧ ((some key = none ∧ z = .inl x0.2.1) ∨ ∃ key' r, some key = some key' ∧ RR T n key' (nxT T n x0) true [] [] 0 0 0 t00 r ∧ z = if r.1 = true then .inr (key', r.2.2) else .inl r.2.1) ∧ (match z with
        | .inl p => p ≤ 96 ∧ Sn (d + 67) q_Reader_readText [.inr (5, 0)] I = some (some (.inl (nI p)), (sh0, I'))
        | .inr (key, C, a) => Sn (d + 67) q_Reader_readText [.inr (5, 0)] I = some (some (.inl (-nI 1)), (sh0, I')) ∧ key < 4 ∧ I' 5 0 3 = nI C.length ∧ I' 5 0 4 = nI a ∧ I' 5 0 5 = nI key ∧ (∀ p, p < C.length → I' 30 0 p = nI (mm_at 0 C p)) ∧ C.length ≤ 96 ∧ a ≤ 96 ∧ okL C ∧ hgt C 0 = some 1) := fun h1 h2 => ⟨I3, .inl y.2.1, eq3, Or.inr ⟨key, _, rfl, h1, rfl⟩, by omega, by rw [st, h2]⟩
    cases b with
    | false =>
      exact bad (q7 rfl) (by simp (disch := omega) only [e_Reader_readText_6, e_Reader_readText_8, lit, nad, nml, bd_s, ct_s, ct_n, a11, a01, aB2, bitA, nlt, nle, neq, dlT, dlF, deT, deF, dqT, dqF, nN, inb, nsb, ndv, nrm, if_true, if_false, ite_true, ite_false, true_and, and_true, and_self, and_false, false_and, or_true, true_or, or_false, false_or, or_self, ↓reduceIte, eq_self, Nat.reduceAdd, Nat.reduceMul, Nat.reduceSub, Nat.reduceDiv, Nat.reduceMod, Nat.zero_add, Nat.mul_zero, not_true_eq_false, not_false_eq_true, up_T, up_F, wr_T, wr_F, ngE, ngE', ngL, ngL', ngQ, ngQ', l7, b2F])
    | true =>
      obtain ⟨g1, g2, g3, V, C', t', g4, g5, g6, g7, g8, g9, g10⟩ := q6 rfl
      by_cases e : y.1 = 256
      · have se : stl 0 (V ++ []) C' = ([], C1) := by
          rw [stl_a (fun c hc => ⟨(g4 c hc).1.1, Nat.zero_le _⟩), ← g5]
          rfl
        have rr := g10 _ (RR_end e)
        rw [se] at rr
        have rr' := rr
        obtain ⟨f, hf⟩ := rr'
        have ra := rn_a hf (Nat.le_refl _) rfl
        dsimp only at ra
        refine ⟨I3, .inr (key, C1, a'), eq3, Or.inr ⟨key, _, rfl, rr, rfl⟩, ?_, hk, q3.2.2.1, q3.2.2.2.1, q3.2.2.2.2.1, q3.2.2.2.2.2, ?_, ?_, g2, g1⟩
        · rw [st]
          simp (disch := omega) only [e_Reader_readText_6, e_Reader_readText_7, e_Reader_readText_9, lit, nad, nml, bd_s, ct_s, ct_n, a11, a01, aB2, bitA, nlt, nle, neq, dlT, dlF, deT, deF, dqT, dqF, nN, inb, nsb, ndv, nrm, if_true, if_false, ite_true, ite_false, true_and, and_true, and_self, and_false, false_and, or_true, true_or, or_false, false_or, or_self, ↓reduceIte, eq_self, Nat.reduceAdd, Nat.reduceMul, Nat.reduceSub, Nat.reduceDiv, Nat.reduceMod, Nat.zero_add, Nat.mul_zero, not_true_eq_false, not_false_eq_true, up_T, up_F, wr_T, wr_F, ngE, ngE', ngL, ngL', ngQ, ngQ', l6, b2T]
        · omega
        · omega
      · exact bad (g10 _ (RR_badS e (fun q => absurd q.2 (Nat.lt_irrefl _)) (by
            rcases g9 with q | q
            · exact Or.inl (by omega)
            · exact Or.inr q))) (by simp (disch := omega) only [e_Reader_readText_6, e_Reader_readText_7, e_Reader_readText_8, lit, nad, nml, bd_s, ct_s, ct_n, a11, a01, aB2, bitA, nlt, nle, neq, dlT, dlF, deT, deF, dqT, dqF, nN, inb, nsb, ndv, nrm, if_true, if_false, ite_true, ite_false, true_and, and_true, and_self, and_false, false_and, or_true, true_or, or_false, false_or, or_self, ↓reduceIte, eq_self, Nat.reduceAdd, Nat.reduceMul, Nat.reduceSub, Nat.reduceDiv, Nat.reduceMod, Nat.zero_add, Nat.mul_zero, not_true_eq_false, not_false_eq_true, up_T, up_F, wr_T, wr_F, ngE, ngE', ngL, ngL', ngQ, ngQ', l6, l7, b2T])
