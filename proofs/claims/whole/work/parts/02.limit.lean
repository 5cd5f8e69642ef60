theorem mm_cond {α : Sort _} (b : Bool) (x y : α) : cond b x y = if b = true then x else y := by cases b <;> rfl
def mm_fin : mm_K (mm_L × List mm_V × mm_M) := fun a b c => some (a, b, c)
set_option maxHeartbeats 4000000 in
theorem mm_s_free {ρ : Type} (e : mm_E) (K : mm_K ρ) (ls : mm_L) (st : List mm_V) (μ : mm_M) : mm_s e K ls st μ = (mm_s e mm_fin ls st μ).bind (fun q => K q.1 q.2.1 q.2.2) := by
  unfold mm_s
  split <;> (try simp only [mm_load, mm_loada, mm_store, mm_storea, mm_bin, mm_ald, mm_ast, mm_fin, mm_cond]) <;> (repeat' (first | rfl | split)) <;> simp_all
def mm_bk : Nat → mm_K (mm_R ⊕ (Nat × mm_L × List mm_V × mm_M)) := fun k a b c => some (.inr (k, a, b, c))
def mm_br : mm_R → Option (mm_R ⊕ (Nat × mm_L × List mm_V × mm_M)) := fun r => some (.inl r)
def mm_el {ρ : Type} (ret : mm_R → Option ρ) (K : Nat → mm_K ρ) (x : mm_R ⊕ (Nat × mm_L × List mm_V × mm_M)) : Option ρ := match x with
  | .inl r => ret r
  | .inr q => K q.1 q.2.1 q.2.2.1 q.2.2.2
theorem mm_sw_free {ρ : Type} (ret : mm_R → Option ρ) (K : Nat → mm_K ρ) (ls : mm_L) (r : List mm_V) (μ : mm_M) (x : Int32) (d : Nat) (l : List (Int32 × Nat)) : mm_sw (fun k => K k ls r μ) x d l = (mm_sw (fun k => mm_bk k ls r μ) x d l).bind (mm_el ret K) := by
  induction l with
  | nil => rfl
  | cons a l ih =>
    obtain ⟨v, k⟩ := a
    unfold mm_sw
    split
    · rfl
    · exact ih
theorem mm_cont_free {ρ : Type} (ret : mm_R → Option ρ) (K : Nat → mm_K ρ) (k : Nat) (ls : mm_L) (r : List mm_V) (o : Option mm_R) : o.bind (mm_cont (K k) ls r) = (o.bind (mm_cont (mm_bk k) ls r)).bind (mm_el ret K) := by
  cases o with
  | none => rfl
  | some q => obtain ⟨v | v, μ⟩ := q <;> rfl
theorem mm_cal_free {ρ : Type} (S : Nat → List mm_V → mm_M → Option mm_R) (ret : mm_R → Option ρ) (K : Nat → mm_K ρ) (k m n : Nat) (ls : mm_L) (st : List mm_V) (μ : mm_M) : mm_cal S (K k) m n ls st μ = (mm_cal S (mm_bk k) m n ls st μ).bind (mm_el ret K) := by
  unfold mm_cal
  cases Nat.ble n st.length && Nat.ble st.length (8 + n) with
  | false => rfl
  | true => exact mm_cont_free ret K k ls _ _
set_option maxHeartbeats 4000000 in
theorem mm_t_free {ρ : Type} (S : Nat → List mm_V → mm_M → Option mm_R) (ret : mm_R → Option ρ) (K : Nat → mm_K ρ) (t : mm_T) (ls : mm_L) (st : List mm_V) (μ : mm_M) : mm_t S ret K t ls st μ = (mm_t S mm_br mm_bk t ls st μ).bind (mm_el ret K) := by
  unfold mm_t
  split
  · rfl
  · split <;> (try simp only [mm_cond]) <;> first | rfl | exact mm_cal_free S ret K _ _ _ ls st μ | (split <;> first | exact mm_cal_free S ret K _ _ _ ls st μ | rfl) | (split <;> first | rfl | exact mm_sw_free ret K ls _ μ _ _ _ | (split <;> (first | rfl | (split <;> rfl))))
theorem mm_b_free {ρ : Type} (S : Nat → List mm_V → mm_M → Option mm_R) (ret : mm_R → Option ρ) (K : Nat → mm_K ρ) (es : List mm_E) (t : mm_T) : ∀ (ls : mm_L) (st : List mm_V) (μ : mm_M), mm_b S ret K (es, t) ls st μ = (mm_b S mm_br mm_bk (es, t) ls st μ).bind (mm_el ret K) := by
  induction es with
  | nil => exact fun ls st μ => mm_t_free S ret K t ls st μ
  | cons e es ih =>
    intro ls st μ
    show mm_s e (mm_b S ret K (es, t)) ls st μ = (mm_s e (mm_b S mm_br mm_bk (es, t)) ls st μ).bind _
    rw [mm_s_free, mm_s_free e (mm_b S mm_br mm_bk (es, t))]
    cases mm_s e mm_fin ls st μ with
    | none => rfl
    | some q => exact ih _ _ _
theorem mm_y_mono (P : Nat → Nat → mm_B) (S : Nat → List mm_V → mm_M → Option mm_R) (m : Nat) : ∀ (n k : Nat) (ls : mm_L) (st : List mm_V) (μ : mm_M) (r : mm_R), mm_y P S m n k ls st μ = some r → mm_y P S m (n + 1) k ls st μ = some r := by
  intro n
  induction n with
  | zero => intro k ls st μ r h; cases h
  | succ n ih =>
    intro k ls st μ r h
    have h1 : mm_b S some (mm_y P S m n) ((P m k).1, (P m k).2) ls st μ = some r := h
    show mm_b S some (mm_y P S m (n + 1)) ((P m k).1, (P m k).2) ls st μ = some r
    rw [mm_b_free] at h1 ⊢
    cases hb : mm_b S mm_br mm_bk ((P m k).1, (P m k).2) ls st μ with
    | none => rw [hb] at h1; cases h1
    | some x =>
      rw [hb] at h1
      obtain x | ⟨a, b, c, d⟩ := x
      · exact h1
      · exact ih _ _ _ _ _ h1
theorem mm_y_le (P : Nat → Nat → mm_B) (S : Nat → List mm_V → mm_M → Option mm_R) (m : Nat) {n n' k : Nat} {ls : mm_L} {st : List mm_V} {μ : mm_M} {r : mm_R} (h : mm_y P S m n k ls st μ = some r) (hn : n ≤ n') : mm_y P S m n' k ls st μ = some r := by
  induction hn with
  | refl => exact h
  | step _ ih => exact mm_y_mono P S m _ _ _ _ _ _ ih
/-- what comes out in the end -/
noncomputable def mm_l (P : Nat → Nat → mm_B) (S : Nat → List mm_V → mm_M → Option mm_R) (m k : Nat) : mm_K mm_R := fun ls st μ => @dite _ (∃ n, (mm_y P S m n k ls st μ).isSome = true) (Classical.propDecidable _) (fun h => mm_y P S m (Classical.choose h) k ls st μ) (fun _ => none)
theorem mm_l_some {P : Nat → Nat → mm_B} {S : Nat → List mm_V → mm_M → Option mm_R} {m n k : Nat} {ls : mm_L} {st : List mm_V} {μ : mm_M} {r : mm_R} (h : mm_y P S m n k ls st μ = some r) : mm_l P S m k ls st μ = some r := by
  have hx : ∃ n, (mm_y P S m n k ls st μ).isSome = true := ⟨n, by rw [h]; rfl⟩
  unfold mm_l
  rw [dif_pos hx]
  obtain ⟨r', hr'⟩ := Option.isSome_iff_exists.mp (Classical.choose_spec hx)
  rcases Nat.le_total n (Classical.choose hx) with q | q
  · rw [mm_y_le P S m h q]
  · rw [hr', ← h, mm_y_le P S m hr' q]
theorem mm_l_spec {P : Nat → Nat → mm_B} {S : Nat → List mm_V → mm_M → Option mm_R} {m k : Nat} {ls : mm_L} {st : List mm_V} {μ : mm_M} {r : mm_R} (h : mm_l P S m k ls st μ = some r) : ∃ n, mm_y P S m n k ls st μ = some r := by
  unfold mm_l at h
  by_cases hx : ∃ n, (mm_y P S m n k ls st μ).isSome = true
  · rw [dif_pos hx] at h
    exact ⟨_, h⟩
  · rw [dif_neg hx] at h
    cases h
/-- a block's equation -/
theorem mm_l_eq (P : Nat → Nat → mm_B) (S : Nat → List mm_V → mm_M → Option mm_R) (m k : Nat) (ls : mm_L) (st : List mm_V) (μ : mm_M) : mm_l P S m k ls st μ = mm_b S some (mm_l P S m) (P m k) ls st μ := by
  show _ = mm_b S some (mm_l P S m) ((P m k).1, (P m k).2) ls st μ
  rw [mm_b_free]
  cases hl : mm_l P S m k ls st μ with
  | some r =>
    obtain ⟨n, hn⟩ := mm_l_spec hl
    cases n with
    | zero => cases hn
    | succ n =>
      have h1 : mm_b S some (mm_y P S m n) ((P m k).1, (P m k).2) ls st μ = some r := hn
      rw [mm_b_free] at h1
      cases hb : mm_b S mm_br mm_bk ((P m k).1, (P m k).2) ls st μ with
      | none => rw [hb] at h1; cases h1
      | some x =>
        rw [hb] at h1
        obtain x | ⟨a, b, c, d⟩ := x
        · exact h1.symm
        · exact (mm_l_some (P := P) (S := S) (m := m) (n := n) h1).symm
  | none =>
    cases hb : mm_b S mm_br mm_bk ((P m k).1, (P m k).2) ls st μ with
    | none => rfl
    | some x =>
      obtain x | ⟨a, b, c, d⟩ := x
      · exfalso
        have h1 : mm_y P S m 1 k ls st μ = some x := by
          show mm_b S some _ ((P m k).1, (P m k).2) ls st μ = some x
          rw [mm_b_free, hb]
          rfl
        rw [mm_l_some h1] at hl
        cases hl
      · show none = mm_l P S m a b c d
        cases hq : mm_l P S m a b c d with
        | none => rfl
        | some r =>
          exfalso
          obtain ⟨n, hn⟩ := mm_l_spec hq
          have h1 : mm_y P S m (n + 1) k ls st μ = some r := by
            show mm_b S some _ ((P m k).1, (P m k).2) ls st μ = some r
            rw [mm_b_free, hb]
            exact hn
          rw [mm_l_some h1] at hl
          cases hl
/-- calls d deep at most; a method's locals at its entry: its arguments, then nothing -/
noncomputable def mm_S (P : Nat → Nat → mm_B) (N : Nat → Nat) : Nat → Nat → List mm_V → mm_M → Option mm_R
  | 0 => fun _ _ _ => none
  | d + 1 => fun m as μ => mm_l P (mm_S P N d) m 0 (as.map some ++ List.replicate (N m - as.length) none) [] μ
