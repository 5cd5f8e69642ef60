/-! The constructors, run by the kernel. -/
def mm_Sc (P : Nat → Nat → mm_B) (N : Nat → Nat) (f : Nat) : Nat → Nat → List mm_V → mm_M → Option mm_R
  | 0 => fun _ _ _ => none
  | d + 1 => fun m as μ => mm_y P (mm_Sc P N f d) m f 0 (as.map some ++ List.replicate (N m - as.length) none) [] μ
theorem mm_t_S {S S' : Nat → List mm_V → mm_M → Option mm_R} (hS : ∀ m as μ r, S m as μ = some r → S' m as μ = some r) {t : mm_T} {lo : mm_L} {st : List mm_V} {μ : mm_M} {z : mm_R ⊕ (Nat × mm_L × List mm_V × mm_M)} (h : mm_t S mm_br mm_bk t lo st μ = some z) : mm_t S' mm_br mm_bk t lo st μ = some z := by
  have hc : ∀ (k m n : Nat) (z : mm_R ⊕ (Nat × mm_L × List mm_V × mm_M)), mm_cal S (mm_bk k) m n lo st μ = some z → mm_cal S' (mm_bk k) m n lo st μ = some z := by
    intro k m n z h
    obtain ⟨h1, h2, q, hq, hz⟩ := mm_cal_in h
    unfold mm_cal
    rw [show (Nat.ble n st.length && Nat.ble st.length (8 + n)) = true by rw [Nat.ble_eq_true_of_le h1, Nat.ble_eq_true_of_le h2]; rfl, cond, hS _ _ _ _ hq, hz]
    show mm_cont (mm_bk k) lo (st.drop n) q = _
    rw [mm_cont_eq]
    rfl
  obtain k | ⟨pc, i, len, sc, inf, cs⟩ := t
  · exact h
  · cases i
    case invokevirtual idx =>
      simp only [mm_t] at h ⊢
      cases hr : mm_rcv inf.2.1 inf.2.2 st with
      | false => rw [hr] at h; cases h
      | true => rw [hr] at h; exact hc _ _ _ _ h
    case invokestatic idx => exact hc _ _ _ _ h
    case invokespecial idx =>
      simp only [mm_t] at h ⊢
      cases hr : mm_rcv inf.2.1 inf.2.2 st with
      | false => rw [hr] at h; cases h
      | true => rw [hr] at h; exact hc _ _ _ _ h
    all_goals exact h
theorem mm_b_S {S S' : Nat → List mm_V → mm_M → Option mm_R} (hS : ∀ m as μ r, S m as μ = some r → S' m as μ = some r) {es : List mm_E} {t : mm_T} : ∀ {lo : mm_L} {st : List mm_V} {μ : mm_M} {z : mm_R ⊕ (Nat × mm_L × List mm_V × mm_M)}, mm_b S mm_br mm_bk (es, t) lo st μ = some z → mm_b S' mm_br mm_bk (es, t) lo st μ = some z := by
  induction es with
  | nil => intro lo st μ z h; exact mm_t_S hS h
  | cons e es ih =>
    intro lo st μ z h
    have h1 : mm_s e (mm_b S mm_br mm_bk (es, t)) lo st μ = some z := h
    show mm_s e (mm_b S' mm_br mm_bk (es, t)) lo st μ = some z
    rw [mm_s_free] at h1 ⊢
    cases hq : mm_s e mm_fin lo st μ with
    | none => rw [hq] at h1; cases h1
    | some q => rw [hq] at h1; exact ih h1
theorem mm_y_S {P : Nat → Nat → mm_B} {S S' : Nat → List mm_V → mm_M → Option mm_R} (hS : ∀ m as μ r, S m as μ = some r → S' m as μ = some r) {M : Nat} : ∀ {n k : Nat} {lo : mm_L} {st : List mm_V} {μ : mm_M} {r : mm_R}, mm_y P S M n k lo st μ = some r → mm_y P S' M n k lo st μ = some r := by
  intro n
  induction n with
  | zero => intro k lo st μ r h; cases h
  | succ n ih =>
    intro k lo st μ r h
    have h1 : mm_b S some (mm_y P S M n) ((P M k).1, (P M k).2) lo st μ = some r := h
    show mm_b S' some (mm_y P S' M n) ((P M k).1, (P M k).2) lo st μ = some r
    rw [mm_b_free] at h1 ⊢
    cases hb : mm_b S mm_br mm_bk ((P M k).1, (P M k).2) lo st μ with
    | none => rw [hb] at h1; cases h1
    | some z =>
      rw [hb] at h1
      rw [mm_b_S hS hb]
      obtain x | ⟨a, b, c, d⟩ := z
      · exact h1
      · exact ih h1
theorem mm_Sc_ok {P : Nat → Nat → mm_B} {N : Nat → Nat} {f : Nat} : ∀ (d m : Nat) (as : List mm_V) (μ : mm_M) (r : mm_R), mm_Sc P N f d m as μ = some r → mm_S P N d m as μ = some r := by
  intro d
  induction d with
  | zero => intro m as μ r h; cases h
  | succ d ih =>
    intro m as μ r h
    exact mm_l_some (n := f) (mm_y_S ih (show mm_y P (mm_Sc P N f d) m f 0 _ [] μ = some r from h))
