/-! A round of the class's estimates, and of the reference's. -/
def uN (t : Nat → Nat) (a y : Nat) : Nat → Nat := fun c => if c = a then y else t c
theorem uN_s (t : Nat → Nat) (a y : Nat) : uN t a y a = y := if_pos rfl
theorem uN_n {t : Nat → Nat} {a y c : Nat} (h : c ≠ a) : uN t a y c = t c := if_neg h
def rlT (A : mm_A) (p : Nat) (t : Nat → Nat) : Nat → Nat := if t (A 1 p 1) + wt A p < t (A 1 p 0) then uN t (A 1 p 0) (t (A 1 p 1) + wt A p) else if t (A 1 p 0) + wt A p < t (A 1 p 1) then uN t (A 1 p 1) (t (A 1 p 0) + wt A p) else t
def rlB (A : mm_A) (p : Nat) (t : Nat → Nat) : Bool := decide (t (A 1 p 1) + wt A p < t (A 1 p 0)) || decide (t (A 1 p 0) + wt A p < t (A 1 p 1))
def cV (A : mm_A) (x to r i : Nat) (b : Bool) (t : Nat → Nat) : Prop :=
  (∀ c, c < 10 → ds A x to c ≤ t c ∧ t c ≤ 536870912) ∧ t to = 0 ∧ (∀ c, c < 10 → rk A x to c ≤ r → t c ≤ ds A x to c) ∧
  (∀ c q b', c < 10 → q < i → su A x to c q b' → rk A x to c ≤ r + 1 → t c ≤ ds A x to c) ∧
  (b = false → ∀ q, q < i → op A x q = true → t (A 1 q 0) ≤ t (A 1 q 1) + wt A q ∧ t (A 1 q 1) ≤ t (A 1 q 0) + wt A q)
theorem cV_shut {A : mm_A} {x to r i : Nat} {b : Bool} {t : Nat → Nat} (h : cV A x to r i b t) (ho : op A x i = false) : cV A x to r (i + 1) b t := by
  obtain ⟨h1, h2, h3, h4, h5⟩ := h
  refine ⟨h1, h2, h3, fun c q b' hc hq hs hr => ?_, fun hb q hq hq2 => ?_⟩
  · rcases Nat.lt_or_ge q i with e | e
    · exact h4 c q b' hc e hs hr
    · rw [show q = i by omega] at hs
      have := hs.2.1
      rw [ho] at this
      cases this
  · rcases Nat.lt_or_ge q i with e | e
    · exact h5 hb q e hq2
    · rw [show q = i by omega, ho] at hq2
      cases hq2
theorem rl_le {A : mm_A} {p : Nat} {t : Nat → Nat} (c : Nat) : rlT A p t c ≤ t c := by
  unfold rlT
  split
  · unfold uN; split
    · rename_i h1 h2; subst h2; omega
    · exact Nat.le_refl _
  · split
    · unfold uN; split
      · rename_i h0 h1 h2; subst h2; omega
      · exact Nat.le_refl _
    · exact Nat.le_refl _
theorem rl_same {A : mm_A} {p : Nat} {t : Nat → Nat} (h : rlB A p t = false) : rlT A p t = t ∧ t (A 1 p 0) ≤ t (A 1 p 1) + wt A p ∧ t (A 1 p 1) ≤ t (A 1 p 0) + wt A p := by
  unfold rlB at h
  rw [Bool.or_eq_false_iff, decide_eq_false_iff_not, decide_eq_false_iff_not] at h
  unfold rlT
  rw [if_neg h.1, if_neg h.2]
  exact ⟨rfl, by omega, by omega⟩
theorem rl_lo {A : mm_A} {x to p : Nat} {t : Nat → Nat} (hp : p < A 0 0 0) (ho : op A x p = true) (h : ∀ c, c < 10 → ds A x to c ≤ t c) (g : GE A) : ∀ c, c < 10 → ds A x to c ≤ rlT A p t c := by
  intro c hc
  obtain ⟨g0, g1, g2, -⟩ := g.2 p hp
  have j1 : jn A p (A 1 p 0) (A 1 p 1) := Or.inl ⟨rfl, rfl⟩
  have t1 := ds_tri (to := to) hp ho j1
  have t2 := ds_tri (to := to) hp ho (jn_sy j1)
  have h0 := h _ g0
  have h1 := h _ g1
  have hh := h c hc
  unfold rlT
  split
  · unfold uN; split
    · rename_i e; subst e; omega
    · exact hh
  · split
    · unfold uN; split
      · rename_i e; subst e; omega
      · exact hh
    · exact hh
theorem rl_su {A : mm_A} {x to p c b : Nat} {t : Nat → Nat} (g : GE A) (hs : su A x to c p b) (hl : ∀ c, c < 10 → ds A x to c ≤ t c) (hb : t b ≤ ds A x to b) : rlT A p t c ≤ ds A x to c := by
  obtain ⟨hp, ho, hj, hr, hd⟩ := hs
  obtain ⟨g0, g1, g2, -⟩ := g.2 p hp
  obtain ⟨c10, b10, cb⟩ := jn_lt g hp hj
  have hlc := hl c c10
  have hlb := hl b b10
  unfold rlT
  rcases hj with ⟨e1, e2⟩ | ⟨e1, e2⟩ <;> rw [e1, e2]
  · split
    · rw [uN_s]; omega
    · split
      · rw [uN_n cb]; omega
      · omega
  · split
    · omega
    · split
      · rw [uN_s]; omega
      · omega
theorem cV_open {A : mm_A} {x to r i : Nat} {b : Bool} {t : Nat → Nat} (g : GE A) (h : cV A x to r i b t) (hi : i < A 0 0 0) (ho : op A x i = true) : cV A x to r (i + 1) (b || rlB A i t) (rlT A i t) := by
  obtain ⟨h1, h2, h3, h4, h5⟩ := h
  refine ⟨fun c hc => ⟨rl_lo hi ho (fun c hc => (h1 c hc).1) g c hc, Nat.le_trans (rl_le c) (h1 c hc).2⟩, ?_, fun c hc hr => Nat.le_trans (rl_le c) (h3 c hc hr), fun c q b' hc hq hs hr => ?_, fun hb q hq hq2 => ?_⟩
  · have := rl_le (A := A) (p := i) (t := t) to
    omega
  · rcases Nat.lt_or_ge q i with e | e
    · exact Nat.le_trans (rl_le c) (h4 c q b' hc e hs hr)
    · rw [show q = i by omega] at hs
      have hk := rk_lt (A := A) (x := x) (to := to) (jn_lt g hs.1 hs.2.2.1).2.1 (show ds A x to b' < ds A x to c by have := hs.2.2.2.2; unfold wt at this; omega)
      exact rl_su g hs (fun c hc => (h1 c hc).1) (h3 b' (jn_lt g hs.1 hs.2.2.1).2.1 (by omega))
  · rw [Bool.or_eq_false_iff] at hb
    obtain ⟨e1, e2, e3⟩ := rl_same hb.2
    rw [e1]
    rcases Nat.lt_or_ge q i with e | e
    · exact h5 hb.1 q e hq2
    · rw [show q = i by omega]; exact ⟨e2, e3⟩
theorem cV_next {A : mm_A} {x to r : Nat} {b : Bool} {t : Nat → Nat} (g : GE A) (h : cV A x to r (A 0 0 0) b t) : cV A x to (r + 1) 0 false t := by
  obtain ⟨h1, h2, h3, h4, h5⟩ := h
  refine ⟨h1, h2, fun c hc hr => ?_, fun c q b' hc hq => by omega, fun _ q hq => by omega⟩
  by_cases e : c = to
  · subst e; omega
  · by_cases hh : rch A x to c
    · obtain ⟨p, b', hs⟩ := ds_su hh e
      exact h4 c p b' hc hs.1 hs hr
    · rw [ds_n hh]; exact (h1 c hc).2
theorem cV_0 {A : mm_A} {x to : Nat} (g : GE A) (ht : to < 10) : cV A x to 0 0 false (uN (fun _ => 536870912) to 0) := by
  refine ⟨fun c hc => ?_, uN_s _ _ _, fun c hc hr => ?_, fun c q b' hc hq => by omega, fun _ q hq => by omega⟩
  · have := (ds_F (x := x) (to := to) g hc).1
    by_cases e : c = to
    · subst e; rw [uN_s, ds_to]; omega
    · rw [uN_n e]; exact ⟨this, Nat.le_refl _⟩
  · by_cases e : c = to
    · subst e; rw [uN_s]; omega
    · rw [uN_n e]
      by_cases hh : rch A x to c
      · exfalso
        obtain ⟨p, b', hs⟩ := ds_su hh e
        have hk := rk_lt (A := A) (x := x) (to := to) (jn_lt g hs.1 hs.2.2.1).2.1 (show ds A x to b' < ds A x to c by have := hs.2.2.2.2; unfold wt at this; omega)
        omega
      · rw [ds_n hh]; exact Nat.le_refl _
theorem cV_fix {A : mm_A} {x to r : Nat} {t : Nat → Nat} (g : GE A) (ht : to < 10) (h : cV A x to r (A 0 0 0) false t) : ∀ c, c < 10 → t c = ds A x to c := ds_fix g ht t h.1 h.2.1 (fun p hp ho => h.2.2.2.2 rfl p hp ho)
theorem cV_10 {A : mm_A} {x to i : Nat} {b : Bool} {t : Nat → Nat} (h : cV A x to 10 i b t) : ∀ c, c < 10 → t c = ds A x to c := fun c hc => by
  have h1 := (h.1 c hc).1
  have h2 := h.2.2.1 c hc (by have := rk_9 (A := A) (x := x) (to := to) hc; omega)
  omega
/-! the reference's: z whether reached, l the effort, f how many -/
noncomputable def dE (A : mm_A) (x to c : Nat) : Nat := ds A x to c / 16
noncomputable def dM (A : mm_A) (x to c : Nat) : Nat := ds A x to c % 16
/-- a step goes from di by dj -/
def di (A : mm_A) (j : Nat) : Nat := A 1 (j / 2) (j % 2)
def dj (A : mm_A) (j : Nat) : Nat := A 1 (j / 2) (1 - j % 2)
theorem dij {A : mm_A} (j : Nat) : jn A (j / 2) (di A j) (dj A j) := by
  unfold jn di dj
  rcases (show j % 2 = 0 ∨ j % 2 = 1 by omega) with e | e <;> rw [e]
  · exact Or.inl ⟨rfl, rfl⟩
  · exact Or.inr ⟨rfl, rfl⟩
theorem dij_of {A : mm_A} {p c b : Nat} (h : jn A p c b) : ∃ j, j < 2 * p + 2 ∧ j / 2 = p ∧ di A j = c ∧ dj A j = b := by
  rcases h with ⟨e1, e2⟩ | ⟨e1, e2⟩
  · refine ⟨2 * p, by omega, by omega, ?_, ?_⟩
    · unfold di; rw [show 2 * p / 2 = p by omega, show 2 * p % 2 = 0 by omega]; exact e1
    · unfold dj; rw [show 2 * p / 2 = p by omega, show 2 * p % 2 = 0 by omega]; exact e2
  · refine ⟨2 * p + 1, by omega, by omega, ?_, ?_⟩
    · unfold di; rw [show (2 * p + 1) / 2 = p by omega, show (2 * p + 1) % 2 = 1 by omega]; exact e2
    · unfold dj; rw [show (2 * p + 1) / 2 = p by omega, show (2 * p + 1) % 2 = 1 by omega]; exact e1
/-- it is exact at c -/
def exR (A : mm_A) (x to : Nat) (z : Nat → Bool) (l f : Nat → Nat) (c : Nat) : Prop := z c = true ∧ l c = dE A x to c ∧ f c = dM A x to c
def rV (A : mm_A) (x to r J : Nat) (b : Bool) (z : Nat → Bool) (l f : Nat → Nat) : Prop :=
  (∀ c, c < 10 → z c = true → rch A x to c ∧ (dE A x to c < l c ∨ (dE A x to c = l c ∧ dM A x to c ≤ f c)) ∧ l c ≤ 2925 * (32 * r + J) ∧ f c ≤ 32 * r + J) ∧
  exR A x to z l f to ∧ (∀ c, c < 10 → rk A x to c ≤ r → rch A x to c → exR A x to z l f c) ∧
  (∀ j, j < J → op A x (j / 2) = true → rch A x to (dj A j) → ds A x to (di A j) = wt A (j / 2) + ds A x to (dj A j) → rk A x to (di A j) ≤ r + 1 → exR A x to z l f (di A j)) ∧
  (b = false → ∀ j, j < J → op A x (j / 2) = true → z (dj A j) = true → z (di A j) = true ∧ (l (di A j) < effF (A 1 (j / 2)) + l (dj A j) ∨ (l (di A j) = effF (A 1 (j / 2)) + l (dj A j) ∧ f (di A j) ≤ 1 + f (dj A j)))) ∧
  (9 ≤ r → b = false)
/-- a step changes something -/
def rsB (A : mm_A) (j : Nat) (z : Nat → Bool) (l f : Nat → Nat) : Bool := z (dj A j) && (!z (di A j) || decide (effF (A 1 (j / 2)) + l (dj A j) < l (di A j)) || (decide (effF (A 1 (j / 2)) + l (dj A j) = l (di A j)) && decide (1 + f (dj A j) < f (di A j))))
def uNB (z : Nat → Bool) (a : Nat) : Nat → Bool := fun c => if c = a then true else z c
theorem ds_em (A : mm_A) (x to c : Nat) : ds A x to c = 16 * dE A x to c + dM A x to c := by unfold dE dM; omega
theorem rV_shut {A : mm_A} {x to r J : Nat} {b : Bool} {z : Nat → Bool} {l f : Nat → Nat} (h : rV A x to r J b z l f) (ho : op A x (J / 2) = false) : rV A x to r (J + 1) b z l f := by
  obtain ⟨h1, h2, h3, h4, h5, h6⟩ := h
  refine ⟨fun c hc hz => ?_, h2, h3, fun j hj hq => ?_, fun hb j hj hq => ?_, h6⟩
  · obtain ⟨a1, a2, a3, a4⟩ := h1 c hc hz
    exact ⟨a1, a2, by omega, by omega⟩
  · rcases Nat.lt_or_ge j J with e | e
    · exact h4 j e hq
    · rw [show j = J by omega, ho] at hq; cases hq
  · rcases Nat.lt_or_ge j J with e | e
    · exact h5 hb j e hq
    · rw [show j = J by omega, ho] at hq; cases hq
/-- what a step does -/
def rsZ (A : mm_A) (j : Nat) (z : Nat → Bool) (l f : Nat → Nat) : Nat → Bool := if rsB A j z l f = true then uNB z (di A j) else z
def rsL (A : mm_A) (j : Nat) (z : Nat → Bool) (l f : Nat → Nat) : Nat → Nat := if rsB A j z l f = true then uN l (di A j) (effF (A 1 (j / 2)) + l (dj A j)) else l
def rsF (A : mm_A) (j : Nat) (z : Nat → Bool) (l f : Nat → Nat) : Nat → Nat := if rsB A j z l f = true then uN f (di A j) (1 + f (dj A j)) else f
theorem exact_stays {A : mm_A} {x to j c : Nat} {z : Nat → Bool} {l f : Nat → Nat} (g : GE A) (hj : j < 2 * A 0 0 0) (ho : op A x (j / 2) = true) (hz : z (dj A j) = true → rch A x to (dj A j) ∧ (dE A x to (dj A j) < l (dj A j) ∨ (dE A x to (dj A j) = l (dj A j) ∧ dM A x to (dj A j) ≤ f (dj A j)))) (h : exR A x to z l f c) (hc : rch A x to c) : exR A x to (rsZ A j z l f) (rsL A j z l f) (rsF A j z l f) c ∧ (c = di A j → rsB A j z l f = false) := by
  have hJ := jn_lt g (by omega) (dij (A := A) j)
  by_cases e : rsB A j z l f = true
  · have e0 := e
    unfold rsB at e
    rw [Bool.and_eq_true] at e
    obtain ⟨z1, z2⟩ := e
    obtain ⟨z3, z4⟩ := hz z1
    by_cases q : c = di A j
    · exfalso
      subst q
      obtain ⟨w1, w2, w3⟩ := h
      have ht := ds_tri (to := to) (by omega) ho (dij (A := A) j)
      have hb1 := ds_b g hJ.1 hc
      have hb2 := ds_b g hJ.2.1 z3
      rw [w1, w2, w3] at z2
      simp only [Bool.not_true, Bool.false_or, Bool.or_eq_true, Bool.and_eq_true, decide_eq_true_eq] at z2
      unfold dE dM at *
      unfold wt at ht
      omega
    · refine ⟨?_, fun w => absurd w q⟩
      unfold exR rsZ rsL rsF
      rw [if_pos e0, if_pos e0, if_pos e0, uN_n q, uN_n q]
      refine ⟨?_, h.2.1, h.2.2⟩
      unfold uNB
      rw [if_neg q]
      exact h.1
  · have e2 : rsB A j z l f = false := by simpa using e
    refine ⟨?_, fun _ => e2⟩
    unfold exR rsZ rsL rsF
    rw [if_neg e, if_neg e, if_neg e]
    exact h
theorem rV_step {A : mm_A} {x to r J : Nat} {b : Bool} {z : Nat → Bool} {l f : Nat → Nat} (g : GE A) (h : rV A x to r J b z l f) (hJ : J < 2 * A 0 0 0) (ho : op A x (J / 2) = true) : rV A x to r (J + 1) (b || rsB A J z l f) (rsZ A J z l f) (rsL A J z l f) (rsF A J z l f) := by
  obtain ⟨h1, h2, h3, h4, h5, h6⟩ := h
  have hjj := jn_lt g (by omega) (dij (A := A) J)
  have ef := g.2 (J / 2) (by omega)
  have hz : z (dj A J) = true → rch A x to (dj A J) ∧ (dE A x to (dj A J) < l (dj A J) ∨ (dE A x to (dj A J) = l (dj A J) ∧ dM A x to (dj A J) ≤ f (dj A J))) := fun q => ⟨(h1 _ hjj.2.1 q).1, (h1 _ hjj.2.1 q).2.1⟩
  have ht := ds_tri (to := to) (by omega) ho (dij (A := A) J)
  have hjr : rch A x to (dj A J) → rch A x to (di A J) := fun q => rch_j (by omega) ho (dij (A := A) J) q
  have hrk : rch A x to (dj A J) → ds A x to (di A J) = wt A (J / 2) + ds A x to (dj A J) → rk A x to (di A J) ≤ r + 1 → exR A x to z l f (dj A J) := fun q1 q2 q3 => h3 _ hjj.2.1 (by
    have := rk_lt (A := A) (x := x) (to := to) (c := di A J) hjj.2.1 (by unfold wt at q2; omega)
    omega) q1
  by_cases e : rsB A J z l f = true
  · have e0 := e
    unfold rsB at e0
    rw [Bool.and_eq_true] at e0
    obtain ⟨z1, z2⟩ := e0
    obtain ⟨z3, z4⟩ := hz z1
    obtain ⟨-, -, z5, z6⟩ := h1 _ hjj.2.1 z1
    have hst := fun c (hx : exR A x to z l f c) (hr : rch A x to c) => (exact_stays g hJ ho hz hx hr).1
    have hb1 := ds_b g hjj.1 (hjr z3)
    have hb2 := ds_b g hjj.2.1 z3
    refine ⟨fun c hc hzc => ?_, hst to h2 (rch_to A x to), fun c hc hr hq => hst c (h3 c hc hr hq) hq, fun j hj hq hr hd hk => ?_, fun hb => ?_, fun h9 => ?_⟩
    · by_cases q : c = di A J
      · subst q
        unfold rsL rsF
        rw [if_pos e, if_pos e, uN_s, uN_s]
        refine ⟨hjr z3, ?_, by omega, by omega⟩
        unfold dE dM at *
        unfold wt at ht
        omega
      · unfold rsZ at hzc
        unfold rsL rsF
        rw [if_pos e] at hzc
        rw [if_pos e, if_pos e, uN_n q, uN_n q]
        unfold uNB at hzc
        rw [if_neg q] at hzc
        obtain ⟨a1, a2, a3, a4⟩ := h1 c hc hzc
        exact ⟨a1, a2, by omega, by omega⟩
    · rcases Nat.lt_or_ge j J with q | q
      · exact hst _ (h4 j q hq hr hd hk) (rch_j (by omega) hq (dij (A := A) j) hr)
      · have q2 : j = J := by omega
        subst q2
        obtain ⟨w1, w2, w3⟩ := hrk hr hd hk
        unfold exR rsZ rsL rsF
        rw [if_pos e, if_pos e, if_pos e, uN_s, uN_s, w2, w3]
        refine ⟨if_pos rfl, ?_, ?_⟩
        · unfold dE dM at *; unfold wt at hd; omega
        · unfold dE dM at *; unfold wt at hd; omega
    · rw [e, Bool.or_true] at hb; cases hb
    · have h9' := h3 _ hjj.1 (by have := rk_9 (A := A) (x := x) (to := to) hjj.1; omega) (hjr z3)
      have := (exact_stays g hJ ho hz h9' (hjr z3)).2 rfl
      rw [e] at this
      cases this
  · have e2 : rsB A J z l f = false := by simpa using e
    have s1 : rsZ A J z l f = z := by unfold rsZ; rw [if_neg e]
    have s2 : rsL A J z l f = l := by unfold rsL; rw [if_neg e]
    have s3 : rsF A J z l f = f := by unfold rsF; rw [if_neg e]
    rw [s1, s2, s3, e2, Bool.or_false]
    have hre : z (dj A J) = true → z (di A J) = true ∧ (l (di A J) < effF (A 1 (J / 2)) + l (dj A J) ∨ (l (di A J) = effF (A 1 (J / 2)) + l (dj A J) ∧ f (di A J) ≤ 1 + f (dj A J))) := by
      intro q
      unfold rsB at e2
      rw [q, Bool.true_and] at e2
      simp only [Bool.or_eq_false_iff, Bool.not_eq_false', Bool.and_eq_false_iff, decide_eq_false_iff_not] at e2
      refine ⟨e2.1.1, ?_⟩
      have := e2.1.2
      have := e2.2
      omega
    refine ⟨fun c hc hzc => ?_, h2, h3, fun j hj hq hr hd hk => ?_, fun hb j hj hq => ?_, h6⟩
    · obtain ⟨a1, a2, a3, a4⟩ := h1 c hc hzc
      exact ⟨a1, a2, by omega, by omega⟩
    · rcases Nat.lt_or_ge j J with q | q
      · exact h4 j q hq hr hd hk
      · have q2 : j = J := by omega
        subst q2
        obtain ⟨w1, w2, w3⟩ := hrk hr hd hk
        obtain ⟨w4, w5⟩ := hre w1
        obtain ⟨-, w6, -, -⟩ := h1 _ hjj.1 w4
        have hb1 := ds_b g hjj.1 (hjr hr)
        have hb2 := ds_b g hjj.2.1 hr
        refine ⟨w4, ?_, ?_⟩
        · unfold dE dM at *; unfold wt at hd; omega
        · unfold dE dM at *; unfold wt at hd; omega
    · rcases Nat.lt_or_ge j J with q | q
      · exact h5 hb j q hq
      · rw [show j = J by omega]; exact hre
theorem rV_next {A : mm_A} {x to r : Nat} {b : Bool} {z : Nat → Bool} {l f : Nat → Nat} (g : GE A) (h : rV A x to r (2 * A 0 0 0) b z l f) : rV A x to (r + 1) 0 false z l f := by
  obtain ⟨h1, h2, h3, h4, h5, h6⟩ := h
  have hN := g.1
  refine ⟨fun c hc hz => ?_, h2, fun c hc hr hq => ?_, fun j hj => by omega, fun _ j hj => by omega, fun _ => rfl⟩
  · obtain ⟨a1, a2, a3, a4⟩ := h1 c hc hz
    exact ⟨a1, a2, by omega, by omega⟩
  · by_cases e : c = to
    · subst e; exact h2
    · obtain ⟨p, b', hs⟩ := ds_su hq e
      obtain ⟨j, j1, j2, j3, j4⟩ := dij_of hs.2.2.1
      have := h4 j (by have := hs.1; omega) (by rw [j2]; exact hs.2.1) (by rw [j4]; exact hs.2.2.2.1) (by rw [j2, j3, j4]; exact hs.2.2.2.2) (by rw [j3]; exact hr)
      rw [j3] at this
      exact this
theorem rV_0 {A : mm_A} {x to : Nat} (g : GE A) (ht : to < 10) : rV A x to 0 0 false (fun c => decide (c = to)) (fun _ => 0) (fun _ => 0) := by
  have h2 : exR A x to (fun c => decide (c = to)) (fun _ => 0) (fun _ => 0) to := by
    unfold exR dE dM
    rw [ds_to]
    exact ⟨decide_eq_true rfl, rfl, rfl⟩
  refine ⟨fun c hc hz => ?_, h2, fun c hc hr hq => ?_, fun j hj => by omega, fun _ j hj => by omega, fun _ => rfl⟩
  · have e := of_decide_eq_true hz
    subst e
    refine ⟨rch_to A x c, ?_, Nat.zero_le _, Nat.zero_le _⟩
    unfold dE dM
    rw [ds_to]
    omega
  · by_cases e : c = to
    · subst e; exact h2
    · exfalso
      obtain ⟨p, b', hs⟩ := ds_su hq e
      have hk := rk_lt (A := A) (x := x) (to := to) (jn_lt g hs.1 hs.2.2.1).2.1 (show ds A x to b' < ds A x to c by have := hs.2.2.2.2; unfold wt at this; omega)
      omega
theorem rV_fix {A : mm_A} {x to r : Nat} {z : Nat → Bool} {l f : Nat → Nat} (g : GE A) (h : rV A x to r (2 * A 0 0 0) false z l f) : ∀ c, c < 10 → (z c = true ↔ rch A x to c) ∧ (rch A x to c → exR A x to z l f c) := by
  obtain ⟨h1, h2, h3, h4, h5, h6⟩ := h
  have key : ∀ n c, rk A x to c ≤ n → c < 10 → rch A x to c → exR A x to z l f c := by
    intro n
    induction n with
    | zero => intro c hn hc hr; exact h3 c hc (by omega) hr
    | succ n ih =>
      intro c hn hc hr
      by_cases e : c = to
      · subst e; exact h2
      · obtain ⟨p, b', hs⟩ := ds_su hr e
        have hj := jn_lt g hs.1 hs.2.2.1
        have hk := rk_lt (A := A) (x := x) (to := to) hj.2.1 (show ds A x to b' < ds A x to c by have := hs.2.2.2.2; unfold wt at this; omega)
        obtain ⟨w1, w2, w3⟩ := ih b' (by omega) hj.2.1 hs.2.2.2.1
        obtain ⟨j, j1, j2, j3, j4⟩ := dij_of hs.2.2.1
        obtain ⟨v1, v2⟩ := h5 rfl j (by have := hs.1; omega) (by rw [j2]; exact hs.2.1) (by rw [j4]; exact w1)
        rw [j3] at v1
        rw [j2, j3, j4, w2, w3] at v2
        obtain ⟨-, u1, -, -⟩ := h1 c hc v1
        have hb1 := ds_b g hc hr
        have hb2 := ds_b g hj.2.1 hs.2.2.2.1
        have hd := hs.2.2.2.2
        refine ⟨v1, ?_, ?_⟩
        · unfold dE dM at *; unfold wt at hd; omega
        · unfold dE dM at *; unfold wt at hd; omega
  exact fun c hc => ⟨⟨fun q => (h1 c hc q).1, fun q => (key _ c (Nat.le_refl _) hc q).1⟩, fun q => key _ c (Nat.le_refl _) hc q⟩
/-! the way itself -/
noncomputable def nxB (A : mm_A) (x to at' p : Nat) : Bool := op A x p && (A 1 p 0 == at' || A 1 p 1 == at') && (ds A x to (if A 1 p 0 = at' then A 1 p 1 else A 1 p 0) + wt A p == ds A x to at')
noncomputable def nx (A : mm_A) (x to at' : Nat) : Nat := (fs (nxB A x to at') 0 (A 0 0 0)).getD 0
def oth (A : mm_A) (p a : Nat) : Nat := if A 1 p 0 = a then A 1 p 1 else A 1 p 0
/-- the cairn behind k stretches -/
noncomputable def wa (A : mm_A) (x to fr : Nat) : Nat → Nat
  | 0 => fr
  | k + 1 => oth A (nx A x to (wa A x to fr k)) (wa A x to fr k)
noncomputable def wp (A : mm_A) (x to fr k : Nat) : Nat := nx A x to (wa A x to fr k)
theorem nx_of {A : mm_A} {x to a : Nat} (g : GE A) (ha : a < 10) (hr : rch A x to a) (hn : a ≠ to) : fs (nxB A x to a) 0 (A 0 0 0) = some (nx A x to a) ∧ nx A x to a < A 0 0 0 ∧ nxB A x to a (nx A x to a) = true ∧ oth A (nx A x to a) a < 10 ∧ rch A x to (oth A (nx A x to a) a) ∧ dM A x to a = 1 + dM A x to (oth A (nx A x to a) a) ∧ dE A x to a = effF (A 1 (nx A x to a)) + dE A x to (oth A (nx A x to a) a) := by
  obtain ⟨p, b, hp, ho, hj, hb, hd⟩ := ds_su hr hn
  have hjl := jn_lt g hp hj
  have hx : nxB A x to a p = true := by
    unfold nxB
    rw [ho]
    rcases hj with ⟨e1, e2⟩ | ⟨e1, e2⟩
    · rw [e1, e2, if_pos rfl]; simp [hd, Nat.add_comm]
    · rw [e1, e2, if_neg (fun q => hjl.2.2 q.symm)]; simp [hd, Nat.add_comm]
  cases hq : fs (nxB A x to a) 0 (A 0 0 0) with
  | none =>
    have := fs_none hq p (Nat.zero_le _) (by omega)
    rw [hx] at this
    cases this
  | some q =>
    obtain ⟨-, q1, q2, q3⟩ := fs_some hq
    have hnx : nx A x to a = q := by unfold nx; rw [hq]; rfl
    rw [hnx]
    have q4 := q2
    unfold nxB at q4
    simp only [Bool.and_eq_true, Bool.or_eq_true, beq_iff_eq] at q4
    obtain ⟨⟨r1, r2⟩, r3⟩ := q4
    have jq : jn A q a (oth A q a) := by
      unfold oth jn
      by_cases e : A 1 q 0 = a
      · rw [if_pos e]; exact Or.inl ⟨e, rfl⟩
      · rw [if_neg e]; exact Or.inr ⟨rfl, r2.resolve_left e⟩
    have r5 := jn_lt g (by omega) jq
    have r6 := rch_j (by omega) r1 (jn_sy jq) hr
    have b1 := ds_b g ha hr
    have b2 := ds_b g r5.2.1 r6
    have r7 : ds A x to (oth A q a) + wt A q = ds A x to a := r3
    refine ⟨rfl, by omega, q2, r5.2.1, r6, ?_, ?_⟩
    · unfold dM; unfold wt at r7; omega
    · unfold dE; unfold wt at r7; omega
theorem wa_of {A : mm_A} {x to fr : Nat} (g : GE A) (hf : fr < 10) (hr : rch A x to fr) : ∀ k, k ≤ dM A x to fr → wa A x to fr k < 10 ∧ rch A x to (wa A x to fr k) ∧ dM A x to (wa A x to fr k) + k = dM A x to fr ∧ (k < dM A x to fr → wa A x to fr k ≠ to) := by
  have h0 : ∀ a, 0 < dM A x to a → a ≠ to := fun a h e => by subst e; unfold dM at h; rw [ds_to] at h; omega
  intro k
  induction k with
  | zero => intro _; exact ⟨hf, hr, rfl, fun h => h0 _ h⟩
  | succ k ih =>
    intro hk
    obtain ⟨i1, i2, i3, i4⟩ := ih (by omega)
    obtain ⟨-, n1, n2, n3, n4, n5, n6⟩ := nx_of g i1 i2 (i4 (by omega))
    exact ⟨n3, n4, by show dM A x to (oth A (nx A x to (wa A x to fr k)) (wa A x to fr k)) + (k + 1) = _; omega, fun h => h0 _ (by show 0 < dM A x to (oth A (nx A x to (wa A x to fr k)) (wa A x to fr k)); omega)⟩
theorem wa_end {A : mm_A} {x to fr : Nat} (g : GE A) (hf : fr < 10) (hr : rch A x to fr) : wa A x to fr (dM A x to fr) = to := by
  obtain ⟨h1, h2, h3, -⟩ := wa_of g hf hr _ (Nat.le_refl _)
  by_cases e : wa A x to fr (dM A x to fr) = to
  · exact e
  · obtain ⟨-, -, -, -, -, n5, -⟩ := nx_of g h1 h2 e
    omega
theorem wp_lt {A : mm_A} {x to fr k : Nat} (g : GE A) (hf : fr < 10) (hr : rch A x to fr) (hk : k < dM A x to fr) : wp A x to fr k < A 0 0 0 := by
  obtain ⟨h1, h2, h3, h4⟩ := wa_of g hf hr k (by omega)
  exact (nx_of g h1 h2 (h4 hk)).2.1
theorem dM_9 {A : mm_A} {x to c : Nat} (g : GE A) (hc : c < 10) (hr : rch A x to c) : dM A x to c ≤ 9 := (ds_b g hc hr).1
