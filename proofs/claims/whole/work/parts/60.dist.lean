/-! The least ways: what they weigh. -/
def op (A : mm_A) (x p : Nat) : Bool := A 1 p 7 == 0 && !(p == x)
def wt (A : mm_A) (p : Nat) : Nat := 16 * effF (A 1 p) + 1
def jn (A : mm_A) (p a b : Nat) : Prop := (A 1 p 0 = a ∧ A 1 p 1 = b) ∨ (A 1 p 0 = b ∧ A 1 p 1 = a)
theorem jn_sy {A : mm_A} {p a b : Nat} (h : jn A p a b) : jn A p b a := h.symm
def wk (A : mm_A) (x to : Nat) : Nat → Nat → Nat → Prop
  | 0, c, y => c = to ∧ y = 0
  | n + 1, c, y => ∃ p b y', p < A 0 0 0 ∧ op A x p = true ∧ jn A p c b ∧ wk A x to n b y' ∧ y = wt A p + y'
def rch (A : mm_A) (x to c : Nat) : Prop := ∃ y n, wk A x to n c y
theorem ex_min {P : Nat → Prop} (h : ∃ y, P y) : ∃ y, P y ∧ ∀ z, P z → y ≤ z := by
  obtain ⟨y, hy⟩ := h
  induction y using Nat.strongRecOn with
  | _ y ih =>
    by_cases q : ∃ z, z < y ∧ P z
    · obtain ⟨z, h1, h2⟩ := q
      exact ih z h1 h2
    · exact ⟨y, hy, fun z hz => Nat.le_of_not_lt (fun w => q ⟨z, w, hz⟩)⟩
noncomputable def ds (A : mm_A) (x to c : Nat) : Nat := @dite _ (rch A x to c) (Classical.propDecidable _) (fun h => Classical.choose (ex_min h)) (fun _ => 536870912)
theorem ds_r {A : mm_A} {x to c : Nat} (h : rch A x to c) : (∃ n, wk A x to n c (ds A x to c)) ∧ ∀ n y, wk A x to n c y → ds A x to c ≤ y := by
  have := Classical.choose_spec (ex_min h)
  unfold ds
  rw [dif_pos h]
  exact ⟨this.1, fun n y hy => this.2 y ⟨n, hy⟩⟩
theorem ds_n {A : mm_A} {x to c : Nat} (h : ¬ rch A x to c) : ds A x to c = 536870912 := by unfold ds; rw [dif_neg h]
theorem rch_to (A : mm_A) (x to : Nat) : rch A x to to := ⟨0, 0, rfl, rfl⟩
theorem ds_to (A : mm_A) (x to : Nat) : ds A x to to = 0 := Nat.le_zero.mp ((ds_r (rch_to A x to)).2 0 0 ⟨rfl, rfl⟩)
theorem rch_j {A : mm_A} {x to p c b : Nat} (hp : p < A 0 0 0) (ho : op A x p = true) (hj : jn A p c b) (h : rch A x to b) : rch A x to c := by
  obtain ⟨y, n, h⟩ := h
  exact ⟨_, n + 1, p, b, y, hp, ho, hj, h, rfl⟩
theorem ds_tri {A : mm_A} {x to p c b : Nat} (hp : p < A 0 0 0) (ho : op A x p = true) (hj : jn A p c b) : ds A x to c ≤ wt A p + ds A x to b := by
  by_cases h : rch A x to b
  · obtain ⟨⟨n, h1⟩, -⟩ := ds_r h
    exact (ds_r (rch_j hp ho hj h)).2 (n + 1) _ ⟨p, b, _, hp, ho, hj, h1, rfl⟩
  · rw [ds_n h, ds_n (fun z => h (rch_j hp ho (jn_sy hj) z))]
    omega
/-- p is a first stretch of a least way from c, by b -/
def su (A : mm_A) (x to c p b : Nat) : Prop := p < A 0 0 0 ∧ op A x p = true ∧ jn A p c b ∧ rch A x to b ∧ ds A x to c = wt A p + ds A x to b
theorem ds_su {A : mm_A} {x to c : Nat} (h : rch A x to c) (hc : c ≠ to) : ∃ p b, su A x to c p b := by
  obtain ⟨⟨n, h1⟩, h2⟩ := ds_r h
  cases n with
  | zero => exact absurd h1.1 hc
  | succ n =>
    obtain ⟨p, b, y, hp, ho, hj, hw, hy⟩ := h1
    have hb : rch A x to b := ⟨y, n, hw⟩
    have h3 := (ds_r hb).2 n y hw
    have h4 := ds_tri (to := to) hp ho hj
    exact ⟨p, b, hp, ho, hj, hb, by omega⟩
/-- how many cairns are nearer -/
noncomputable def rk (A : mm_A) (x to c : Nat) : Nat := sm (fun b => if ds A x to b < ds A x to c then 1 else 0) 10
theorem sm_mono {f g : Nat → Nat} : ∀ {n : Nat}, (∀ i, i < n → f i ≤ g i) → sm f n ≤ sm g n
  | 0, _ => Nat.le_refl _
  | n + 1, h => by
    have h1 := sm_mono (fun i hi => h i (by omega : i < n + 1)) (n := n)
    have h2 := h n (by omega)
    rw [sm, sm]
    omega
theorem sm_lt {f g : Nat → Nat} {j : Nat} : ∀ {n : Nat}, (∀ i, i < n → f i ≤ g i) → j < n → f j < g j → sm f n < sm g n
  | 0, _, h, _ => by omega
  | n + 1, h, hj, hl => by
    rw [sm, sm]
    have h2 := h n (by omega)
    rcases Nat.lt_or_ge j n with q | q
    · have h1 := sm_lt (fun i hi => h i (by omega : i < n + 1)) q hl
      omega
    · have h1 := sm_mono (fun i hi => h i (by omega : i < n + 1)) (n := n)
      rw [show j = n by omega] at hl
      omega
theorem rk_lt {A : mm_A} {x to b c : Nat} (hb : b < 10) (h : ds A x to b < ds A x to c) : rk A x to b < rk A x to c := by
  refine sm_lt (j := b) (fun i _ => ?_) hb ?_
  · by_cases q : ds A x to i < ds A x to b
    · rw [if_pos q, if_pos (by omega)]; exact Nat.le_refl _
    · rw [if_neg q]; exact Nat.zero_le _
  · rw [if_neg (by omega), if_pos h]; omega
theorem rk_9 {A : mm_A} {x to c : Nat} (hc : c < 10) : rk A x to c ≤ 9 := by
  have h := sm_lt (f := fun b => if ds A x to b < ds A x to c then 1 else 0) (g := fun _ => 1) (j := c) (n := 10) (fun i _ => by split <;> omega) hc (by rw [if_neg (by omega)]; omega)
  have h2 : sm (fun _ => 1) 10 = 10 := rfl
  rw [h2] at h
  exact Nat.le_of_lt_succ h
/-- bounds of the stretches -/
def GE (A : mm_A) : Prop := A 0 0 0 ≤ 16 ∧ ∀ p, p < A 0 0 0 → A 1 p 0 < 10 ∧ A 1 p 1 < 10 ∧ A 1 p 0 ≠ A 1 p 1 ∧ 4 ≤ effF (A 1 p) ∧ effF (A 1 p) ≤ 2925 ∧ A 1 p 7 ≤ 1
theorem GE_of {A : mm_A} (g : Good A) : GE A := ⟨g.1.1, fun p hp => by
  obtain ⟨g0, g1, g2, g3, g4, g5, g6, g7, g8, g9, g10, g11⟩ := g.2.2.1 p hp
  have := eff_pos (g.2.2.1 p hp)
  omega⟩
theorem jn_lt {A : mm_A} {p a b : Nat} (g : GE A) (hp : p < A 0 0 0) (h : jn A p a b) : a < 10 ∧ b < 10 ∧ a ≠ b := by
  obtain ⟨h0, h1, h2, -⟩ := g.2 p hp
  rcases h with ⟨e1, e2⟩ | ⟨e1, e2⟩ <;> subst e1 <;> subst e2
  · exact ⟨h0, h1, h2⟩
  · exact ⟨h1, h0, fun z => h2 z.symm⟩
theorem ds_EM {A : mm_A} {x to : Nat} (g : GE A) : ∀ (n c : Nat), rk A x to c ≤ n → rch A x to c → ds A x to c % 16 ≤ rk A x to c ∧ ds A x to c ≤ 46801 * rk A x to c := by
  intro n
  induction n with
  | zero =>
    intro c hn h
    by_cases e : c = to
    · subst e; rw [ds_to]; omega
    · obtain ⟨p, b, hp, ho, hj, hb, hd⟩ := ds_su h e
      have := rk_lt (A := A) (c := c) (x := x) (to := to) (jn_lt g hp hj).2.1 (by unfold wt at hd; omega)
      omega
  | succ n ih =>
    intro c hn h
    by_cases e : c = to
    · subst e; rw [ds_to]; omega
    · obtain ⟨p, b, hp, ho, hj, hb, hd⟩ := ds_su h e
      have h1 := rk_lt (A := A) (c := c) (x := x) (to := to) (jn_lt g hp hj).2.1 (by unfold wt at hd; omega)
      obtain ⟨i1, i2⟩ := ih b (by omega) hb
      have h9 := rk_9 (A := A) (x := x) (to := to) (jn_lt g hp hj).2.1
      have h5 := (g.2 p hp).2.2.2.1
      have h6 := (g.2 p hp).2.2.2.2.1
      unfold wt at hd
      omega
theorem ds_b {A : mm_A} {x to c : Nat} (g : GE A) (hc : c < 10) (h : rch A x to c) : ds A x to c % 16 ≤ 9 ∧ ds A x to c ≤ 421209 := by
  have h1 := ds_EM g _ c (Nat.le_refl _) h
  have h2 := rk_9 (A := A) (x := x) (to := to) hc
  omega
theorem ds_F {A : mm_A} {x to c : Nat} (g : GE A) (hc : c < 10) : ds A x to c ≤ 536870912 ∧ (ds A x to c < 536870912 ↔ rch A x to c) := by
  by_cases h : rch A x to c
  · have := ds_b g hc h
    exact ⟨by omega, fun _ => h, fun _ => by omega⟩
  · rw [ds_n h]
    exact ⟨Nat.le_refl _, fun z => by omega, fun z => absurd z h⟩
/-- the class's estimates reach the least weights -/
theorem ds_fix {A : mm_A} {x to : Nat} (g : GE A) (ht : to < 10) (t : Nat → Nat) (hl : ∀ c, c < 10 → ds A x to c ≤ t c ∧ t c ≤ 536870912) (h0 : t to = 0) (hr : ∀ p, p < A 0 0 0 → op A x p = true → t (A 1 p 0) ≤ t (A 1 p 1) + wt A p ∧ t (A 1 p 1) ≤ t (A 1 p 0) + wt A p) : ∀ c, c < 10 → t c = ds A x to c := by
  have key : ∀ n c, rk A x to c ≤ n → c < 10 → t c ≤ ds A x to c := by
    intro n
    induction n with
    | zero =>
      intro c hn hc
      by_cases e : c = to
      · subst e; omega
      · by_cases h : rch A x to c
        · obtain ⟨p, b, hp, ho, hj, hb, hd⟩ := ds_su h e
          have := rk_lt (A := A) (c := c) (x := x) (to := to) (jn_lt g hp hj).2.1 (by unfold wt at hd; omega)
          omega
        · rw [ds_n h]; exact (hl c hc).2
    | succ n ih =>
      intro c hn hc
      by_cases e : c = to
      · subst e; omega
      · by_cases h : rch A x to c
        · obtain ⟨p, b, hp, ho, hj, hb, hd⟩ := ds_su h e
          have h1 := rk_lt (A := A) (c := c) (x := x) (to := to) (jn_lt g hp hj).2.1 (by unfold wt at hd; omega)
          have h2 := ih b (by omega) (jn_lt g hp hj).2.1
          obtain ⟨h3, h4⟩ := hr p hp ho
          rcases hj with ⟨e1, e2⟩ | ⟨e1, e2⟩ <;> rw [e1, e2] at h3 h4 <;> omega
        · rw [ds_n h]; exact (hl c hc).2
  intro c hc
  have h1 := key _ c (Nat.le_refl _) hc
  have h2 := (hl c hc).1
  omega
