/-! The roster, pure. J jobs, nd what a job needs, gv w j days given. A best is none or (met, days, digits). -/
def fo {σ : Type} (f : Nat → σ → σ) : Nat → σ → σ
  | 0, s => s
  | m + 1, s => f m (fo f m s)
abbrev BS : Type := Option (Nat × Nat × (Nat → Nat))
def bet (m d : Nat) : BS → Bool
  | none => true
  | some (m', d', _) => decide (m' < m) || (decide (m = m') && decide (d' < d))
def tkB (s : BS) (m d : Nat) (p : Nat → Nat) : BS := if bet m d s = true then some (m, d, p) else s
def mtN (nd h : Nat → Nat) (J : Nat) : Nat := sm (fun j => if nd j ≤ h j then 1 else 0) J
def dyN (nd h : Nat → Nat) (J : Nat) : Nat := sm (fun j => if h j ≤ nd j then h j else nd j) J
def chN (gv : Nat → Nat → Nat) (w : Nat) (h : Nat → Nat) (x : Nat) : Nat → Nat := if x = 0 then h else uN h (x - 1) (h (x - 1) + gv w (x - 1))
def rf (J : Nat) (nd : Nat → Nat) (gv : Nat → Nat → Nat) : Nat → Nat → (Nat → Nat) → (Nat → Nat) → BS → BS
  | 0, _, h, p, s => tkB s (mtN nd h J) (dyN nd h J) p
  | n + 1, w, h, p, s => fo (fun x s => rf J nd gv n (w + 1) (chN gv w h x) (uN p w x) s) (J + 1) s
def DD (J : Nat) (nd : Nat → Nat) (gv : Nat → Nat → Nat) : Nat → Nat → (Nat → Nat) → BS → Prop
  | 0, _, h, s => bet (mtN nd h J) (dyN nd h J) s = false
  | n + 1, w, h, s => ∀ x, x < J + 1 → DD J nd gv n (w + 1) (chN gv w h x) s
def leB (s t : BS) : Prop := ∀ m d, bet m d s = false → bet m d t = false
theorem leB_rf (s : BS) : leB s s := fun _ _ h => h
theorem leB_tr {s t u : BS} (h : leB s t) (h2 : leB t u) : leB s u := fun m d q => h2 m d (h m d q)
theorem leB_tk (s : BS) (m d : Nat) (p : Nat → Nat) : leB s (tkB s m d p) := by
  intro m1 d1 h
  unfold tkB
  split
  · rename_i q
    cases s with
    | none => cases h
    | some v =>
      obtain ⟨m', d', p'⟩ := v
      simp only [bet, Bool.or_eq_false_iff, Bool.and_eq_false_iff, decide_eq_false_iff_not, Bool.or_eq_true, Bool.and_eq_true, decide_eq_true_eq] at h q ⊢
      omega
  · exact h
theorem fo_le {f : Nat → BS → BS} (h : ∀ x s, leB s (f x s)) : ∀ m s, leB s (fo f m s)
  | 0, s => leB_rf s
  | m + 1, s => leB_tr (fo_le h m s) (h m _)
theorem rf_leB {J : Nat} {nd : Nat → Nat} {gv : Nat → Nat → Nat} : ∀ n w h p s, leB s (rf J nd gv n w h p s) := by
  intro n
  induction n with
  | zero => intro w h p s; exact leB_tk s _ _ _
  | succ n ih => intro w h p s; exact fo_le (fun x s => ih _ _ _ s) _ s
theorem DD_le {J : Nat} {nd : Nat → Nat} {gv : Nat → Nat → Nat} : ∀ n w h s t, leB s t → DD J nd gv n w h s → DD J nd gv n w h t := by
  intro n
  induction n with
  | zero => intro w h s t l q; exact l _ _ q
  | succ n ih => intro w h s t l q x hx; exact ih _ _ _ _ l (q x hx)
theorem fo_id {σ : Type} {f : Nat → σ → σ} {s : σ} : ∀ m, (∀ x, x < m → f x s = s) → fo f m s = s
  | 0, _ => rfl
  | m + 1, h => by rw [fo, fo_id m (fun x hx => h x (by omega)), h m (by omega)]
theorem DD_rf {J : Nat} {nd : Nat → Nat} {gv : Nat → Nat → Nat} : ∀ n w h p s, DD J nd gv n w h s → rf J nd gv n w h p s = s := by
  intro n
  induction n with
  | zero => intro w h p s q; unfold rf tkB; rw [show bet _ _ s = false from q]; rfl
  | succ n ih => intro w h p s q; exact fo_id _ (fun x hx => ih _ _ _ _ (q x hx))
theorem tk_bet (s : BS) (m d : Nat) (p : Nat → Nat) : bet m d (tkB s m d p) = false := by
  unfold tkB
  split
  · simp [bet]
  · rename_i q; simpa using q
theorem fo_all {f : Nat → BS → BS} {P : Nat → BS → Prop} (h1 : ∀ x s, P x (f x s)) (h2 : ∀ x y s, P x s → P x (f y s)) : ∀ m s x, x < m → P x (fo f m s)
  | 0, _, _, h => absurd h (Nat.not_lt_zero _)
  | m + 1, s, x, h => by
    by_cases e : x = m
    · rw [e]; exact h1 m _
    · exact h2 x m _ (fo_all h1 h2 m s x (by omega))
theorem rf_DD {J : Nat} {nd : Nat → Nat} {gv : Nat → Nat → Nat} : ∀ n w h p s, DD J nd gv n w h (rf J nd gv n w h p s) := by
  intro n
  induction n with
  | zero => intro w h p s; exact tk_bet s _ _ _
  | succ n ih =>
    intro w h p s x hx
    exact fo_all (f := fun x s => rf J nd gv n (w + 1) (chN gv w h x) (uN p w x) s) (P := fun x s => DD J nd gv n (w + 1) (chN gv w h x) s) (fun x s => ih _ _ _ _) (fun x y s q => DD_le _ _ _ _ _ (rf_leB _ _ _ _ _) q) (J + 1) s x hx
/-- the bound -/
theorem DD_bd {J : Nat} {nd : Nat → Nat} {gv : Nat → Nat → Nat} {H : Nat → Nat} {s : BS} (hb : bet (mtN nd H J) (dyN nd H J) s = false) : ∀ n w h, (∀ j, j < J → h j + sm (fun i => gv (w + i) j) n ≤ H j) → DD J nd gv n w h s := by
  intro n
  induction n with
  | zero =>
    intro w h q
    have m1 : mtN nd h J ≤ mtN nd H J := sm_mono (fun j hj => by have : h j + 0 ≤ H j := q j hj; split <;> split <;> omega)
    have d1 : dyN nd h J ≤ dyN nd H J := sm_mono (fun j hj => by have : h j + 0 ≤ H j := q j hj; split <;> split <;> omega)
    show bet _ _ s = false
    cases s with
    | none => cases hb
    | some v =>
      obtain ⟨m', d', p'⟩ := v
      simp only [bet, Bool.or_eq_false_iff, Bool.and_eq_false_iff, decide_eq_false_iff_not] at hb ⊢
      omega
  | succ n ih =>
    intro w h q x hx
    refine ih _ _ (fun j hj => ?_)
    have e2 : ∀ m, sm (fun i => gv (w + i) j) (m + 1) = gv w j + sm (fun i => gv (w + 1 + i) j) m := by
      intro m
      induction m with
      | zero => show 0 + gv (w + 0) j = gv w j + 0; rw [Nat.add_zero]; omega
      | succ m im => rw [sm, im, sm, show w + (m + 1) = w + 1 + m by omega]; omega
    have := q j hj
    rw [e2] at this
    unfold chN
    split
    · omega
    · by_cases z : j = x - 1
      · rw [z, uN_s, ← z]; omega
      · rw [uN_n z]; omega
/-- a weekend that does no more than none -/
def eqH (J : Nat) (nd h k : Nat → Nat) : Prop := ∀ j, j < J → h j = k j ∨ (nd j ≤ h j ∧ nd j ≤ k j)
theorem DD_eq {J : Nat} {nd : Nat → Nat} {gv : Nat → Nat → Nat} {s : BS} : ∀ n w h k, eqH J nd h k → DD J nd gv n w h s → DD J nd gv n w k s := by
  intro n
  induction n with
  | zero =>
    intro w h k e q
    have m1 : mtN nd h J = mtN nd k J := sm_congr (fun j hj => by rcases e j hj with z | z; rw [z]; rw [if_pos z.1, if_pos z.2])
    have d1 : dyN nd h J = dyN nd k J := sm_congr (fun j hj => by rcases e j hj with z | z; rw [z]; split <;> split <;> omega)
    show bet _ _ s = false
    rw [← m1, ← d1]
    exact q
  | succ n ih =>
    intro w h k e q x hx
    refine ih _ _ _ (fun j hj => ?_) (q x hx)
    have := e j hj
    unfold chN
    split
    · exact this
    · by_cases z : j = x - 1
      · rw [z, uN_s, uN_s, ← z]; omega
      · rw [uN_n z, uN_n z]; exact this
