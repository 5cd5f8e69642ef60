/-! Flights, pure: w the weights, L how many flights. -/
def cp (w : Nat → Nat) (L : Nat) : Nat → Nat → (Nat → Nat) → Bool
  | 0, _, _ => true
  | n + 1, k, c => an (fun f => decide (c f + w k ≤ 100) && cp w L n (k + 1) (uN c f (c f + w k))) L
def cand (w : Nat → Nat) (L n k : Nat) (c : Nat → Nat) (f : Nat) : Bool := decide (c f + w k ≤ 100) && cp w L n (k + 1) (uN c f (c f + w k))
theorem cp_s (w : Nat → Nat) (L n k : Nat) (c : Nat → Nat) : cp w L (n + 1) k c = an (cand w L n k c) L := rfl
def fcn (w : Nat → Nat) (L n k : Nat) (c : Nat → Nat) : Nat := (fs (cand w L n k c) 0 L).getD 0
def asg (w : Nat → Nat) (L : Nat) : Nat → Nat → (Nat → Nat) → Nat → Nat
  | 0, _, _ => fun _ => 0
  | n + 1, k, c => fun i => if i = k then fcn w L n k c else asg w L n (k + 1) (uN c (fcn w L n k c) (c (fcn w L n k c) + w k)) i
def sw (f g i : Nat) : Nat := if i = f then g else if i = g then f else i
theorem sw_sw (f g i : Nat) : sw f g (sw f g i) = i := by
  unfold sw
  by_cases h1 : i = f
  · rw [if_pos h1]
    by_cases h2 : g = f
    · rw [if_pos h2, h2, h1]
    · rw [if_neg h2, if_pos rfl, h1]
  · rw [if_neg h1]
    by_cases h2 : i = g
    · rw [if_pos h2, if_pos rfl, h2]
    · rw [if_neg h2, if_neg h1, if_neg h2]
theorem sw_lt {f g i L : Nat} (hf : f < L) (hg : g < L) (hi : i < L) : sw f g i < L := by unfold sw; split; exact hg; split; exact hf; exact hi
theorem an_eq {P Q : Nat → Bool} {n : Nat} (h : (∃ i, i < n ∧ P i = true) ↔ ∃ i, i < n ∧ Q i = true) : an P n = an Q n := by
  cases a : an P n with
  | true =>
    have := an_iff.mpr (h.mp (an_iff.mp a))
    exact this.symm
  | false =>
    cases b : an Q n with
    | false => rfl
    | true =>
      have := an_iff.mpr (h.mpr (an_iff.mp b))
      rw [a] at this
      cases this
theorem cp_sw {w : Nat → Nat} {L f g : Nat} (hf : f < L) (hg : g < L) : ∀ n k (c : Nat → Nat), cp w L n k (fun i => c (sw f g i)) = cp w L n k c := by
  intro n
  induction n with
  | zero => intro k c; rfl
  | succ n ih =>
    intro k c
    have key : ∀ h, cand w L n k (fun i => c (sw f g i)) h = cand w L n k c (sw f g h) := by
      intro h
      unfold cand
      have e : uN (fun i => c (sw f g i)) h (c (sw f g h) + w k) = fun i => uN c (sw f g h) (c (sw f g h) + w k) (sw f g i) := by
        funext i
        unfold uN
        by_cases q : i = h
        · rw [if_pos q, q, if_pos rfl]
        · rw [if_neg q, if_neg (fun z => q (by rw [← sw_sw f g i, z, sw_sw]))]
      rw [e, ih]
    rw [cp_s, cp_s]
    refine an_eq ⟨?_, ?_⟩
    · rintro ⟨i, h1, h2⟩
      exact ⟨sw f g i, sw_lt hf hg h1, by rw [← key]; exact h2⟩
    · rintro ⟨i, h1, h2⟩
      exact ⟨sw f g i, sw_lt hf hg h1, by rw [key, sw_sw]; exact h2⟩
theorem cand_like {w : Nat → Nat} {L n k f g : Nat} {c : Nat → Nat} (hf : f < L) (hg : g < L) (e : c g = c f) : cand w L n k c f = cand w L n k c g := by
  have key : ∀ x, uN c f x = fun i => uN c g x (sw f g i) := by
    intro x
    funext i
    unfold uN sw
    by_cases h1 : i = f
    · rw [if_pos h1, if_pos h1, if_pos rfl]
    · rw [if_neg h1, if_neg h1]
      by_cases h2 : i = g
      · rw [if_pos h2]
        by_cases h3 : f = g
        · exact absurd (h2.trans h3.symm) h1
        · rw [if_neg h3, h2, e]
      · rw [if_neg h2, if_neg h2]
  unfold cand
  rw [key, cp_sw hf hg, e]
/-- what is carried, and left -/
theorem cp_sum {w : Nat → Nat} {L : Nat} : ∀ n k (c : Nat → Nat), (∀ f, f < L → c f ≤ 100) → cp w L n k c = true → sm c L + sm (fun i => w (k + i)) n ≤ 100 * L := by
  intro n
  induction n with
  | zero =>
    intro k c hc _
    have := sm_le hc
    show sm c L + 0 ≤ 100 * L
    omega
  | succ n ih =>
    intro k c hc h
    rw [cp_s] at h
    obtain ⟨f, hf, h2⟩ := an_iff.mp h
    unfold cand at h2
    rw [Bool.and_eq_true, decide_eq_true_eq] at h2
    have h3 := ih (k + 1) _ (fun g hg => by
      by_cases q : g = f
      · rw [q, uN_s]; exact h2.1
      · rw [uN_n q]; exact hc g hg) h2.2
    have e1 : ∀ m, sm (uN c f (c f + w k)) m = if f < m then sm c m + w k else sm c m := by
      intro m
      induction m with
      | zero => rfl
      | succ m im =>
        rw [sm, sm, im]
        by_cases q : m = f
        · subst q
          rw [uN_s, if_neg (by omega), if_pos (by omega)]
          omega
        · rw [uN_n q]
          by_cases q2 : f < m
          · rw [if_pos q2, if_pos (by omega)]; omega
          · rw [if_neg q2, if_neg (by omega)]
    have e2 : ∀ m, sm (fun i => w (k + i)) (m + 1) = w k + sm (fun i => w (k + 1 + i)) m := by
      intro m
      induction m with
      | zero => show 0 + w (k + 0) = w k + 0; rw [Nat.add_zero]; omega
      | succ m im =>
        rw [sm, im, sm, show k + (m + 1) = k + 1 + m by omega]
        omega
    rw [e1, if_pos hf] at h3
    rw [e2]
    omega
theorem cp_own {w : Nat → Nat} {L : Nat} (hw : ∀ k, w k ≤ 100) : ∀ n k (c : Nat → Nat), k + n ≤ L → (∀ f, k ≤ f → c f = 0) → cp w L n k c = true := by
  intro n
  induction n with
  | zero => intro k c _ _; rfl
  | succ n ih =>
    intro k c hk hc
    rw [cp_s]
    refine an_iff.mpr ⟨k, by omega, ?_⟩
    unfold cand
    rw [Bool.and_eq_true, decide_eq_true_eq, hc k (Nat.le_refl _)]
    refine ⟨by have := hw k; omega, ih (k + 1) _ (by omega) (fun f hf => ?_)⟩
    rw [uN_n (by omega)]
    exact hc f (by omega)
theorem fcn_of {w : Nat → Nat} {L n k f : Nat} {c : Nat → Nat} (hf : f < L) (h : cand w L n k c f = true) (h2 : ∀ g, g < f → cand w L n k c g = false) : fcn w L n k c = f := by
  unfold fcn
  rw [fs_of (Nat.zero_le _) (by omega) h (fun i _ hi => h2 i hi)]
  rfl
/-- the fewest flights -/
noncomputable def flA (w : Nat → Nat) (m : Nat) : Nat := (fs (fun L => cp w L m 0 (fun _ => 0)) 0 (m + 1)).getD 0
theorem flA_of {w : Nat → Nat} {m : Nat} (hw : ∀ k, w k ≤ 100) : flA w m ≤ m ∧ cp w (flA w m) m 0 (fun _ => 0) = true ∧ ∀ L, L < flA w m → cp w L m 0 (fun _ => 0) = false := by
  unfold flA
  cases h : fs (fun L => cp w L m 0 (fun _ => 0)) 0 (m + 1) with
  | none =>
    have := fs_none h m (Nat.zero_le _) (by omega)
    rw [cp_own hw m 0 _ (by omega) (fun _ _ => rfl)] at this
    cases this
  | some L =>
    obtain ⟨-, h1, h2, h3⟩ := fs_some h
    exact ⟨by show L ≤ m; omega, h2, fun L' hL => h3 L' (Nat.zero_le _) hL⟩
theorem flA_ge {w : Nat → Nat} {m : Nat} (hw : ∀ k, w k ≤ 100) : (sm w m + 99) / 100 ≤ flA w m := by
  obtain ⟨h1, h2, h3⟩ := flA_of (m := m) hw
  have := cp_sum m 0 (fun _ => 0) (fun _ _ => Nat.zero_le _) h2
  have e : sm (fun i => w (0 + i)) m = sm w m := sm_congr (fun i _ => by rw [Nat.zero_add])
  have e0 : ∀ n, sm (fun _ => 0) n = 0 := fun n => by
    induction n with
    | zero => rfl
    | succ n ih => rw [sm, ih]
  rw [e, e0] at this
  omega
