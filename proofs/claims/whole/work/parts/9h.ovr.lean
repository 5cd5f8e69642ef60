/-! The same for blocks, methods, calls. -/
abbrev mm_Z : Type := mm_R ⊕ (Nat × mm_L × List mm_V × mm_M)
def oZ (X : Nat → Nat → Int32) : mm_Z → mm_Z
  | .inl r => .inl (r.1, ovM X r.2)
  | .inr q => .inr (q.1, q.2.1, q.2.2.1, ovM X q.2.2.2)
def nZ : mm_Z → Prop
  | .inl r => ∀ v, r.1 = some v → n9 v
  | .inr q => nL q.2.1 ∧ nS q.2.2.1
def oS (X : Nat → Nat → Int32) (S : Nat → List mm_V → mm_M → Option mm_R) : Prop := ∀ m as μ r, nS as → S m as μ = some r → S m as (ovM X μ) = some (r.1, ovM X r.2) ∧ ∀ v, r.1 = some v → n9 v
theorem ov_sw {X : Nat → Nat → Int32} {lo : mm_L} {r : List mm_V} {μ : mm_M} {x : Int32} {d : Nat} {l : List (Int32 × Nat)} {z : mm_Z} (hl : nL lo) (hs : nS r) (h : mm_sw (fun k => mm_bk k lo r μ) x d l = some z) : mm_sw (fun k => mm_bk k lo r (ovM X μ)) x d l = some (oZ X z) ∧ nZ z := by
  induction l with
  | nil => cases h; exact ⟨rfl, hl, hs⟩
  | cons a l ih =>
    obtain ⟨v, k⟩ := a
    unfold mm_sw at h ⊢
    split at h
    · rename_i c
      rw [if_pos c]
      cases h
      exact ⟨rfl, hl, hs⟩
    · rename_i c
      rw [if_neg c]
      exact ih h
theorem ov_bk {X : Nat → Nat → Int32} {lo : mm_L} {r : List mm_V} {μ : mm_M} {k : Nat} {z : mm_Z} (hl : nL lo) (hs : nS r) (h : mm_bk k lo r μ = some z) : mm_bk k lo r (ovM X μ) = some (oZ X z) ∧ nZ z := by
  cases h; exact ⟨rfl, hl, hs⟩
theorem ov_cal {X : Nat → Nat → Int32} {S : Nat → List mm_V → mm_M → Option mm_R} (hS : oS X S) {k m n : Nat} {lo : mm_L} {st : List mm_V} {μ : mm_M} {z : mm_Z} (hl : nL lo) (hs : nS st) (h : mm_cal S (mm_bk k) m n lo st μ = some z) : mm_cal S (mm_bk k) m n lo st (ovM X μ) = some (oZ X z) ∧ nZ z := by
  obtain ⟨h1, h2, q, hq, hz⟩ := mm_cal_in h
  have ha : nS (st.take n).reverse := fun v hv => hs v (List.mem_of_mem_take (List.mem_reverse.mp hv))
  obtain ⟨s1, s2⟩ := hS m _ μ q ha hq
  subst hz
  refine ⟨?_, hl, fun v hv => ?_⟩
  · unfold mm_cal
    rw [show (Nat.ble n st.length && Nat.ble st.length (8 + n)) = true by rw [Nat.ble_eq_true_of_le h1, Nat.ble_eq_true_of_le h2]; rfl, cond, s1]
    show mm_cont (mm_bk k) lo (st.drop n) (q.1, ovM X q.2) = _
    rw [mm_cont_eq]
    rfl
  · dsimp only at hv
    rw [List.mem_append] at hv
    rcases hv with w | w
    · exact s2 v (Option.mem_toList.mp w)
    · exact hs v (List.mem_of_mem_drop w)
theorem ov_t {X : Nat → Nat → Int32} {S : Nat → List mm_V → mm_M → Option mm_R} (hS : oS X S) {t : mm_T} {lo : mm_L} {st : List mm_V} {μ : mm_M} {z : mm_Z} (hl : nL lo) (hs : nS st) (h : mm_t S mm_br mm_bk t lo st μ = some z) : mm_t S mm_br mm_bk t lo st (ovM X μ) = some (oZ X z) ∧ nZ z := by
  obtain k | ⟨pc, i, len, ⟨s0, s1⟩, inf, cs⟩ := t
  · exact ov_bk hl hs h
  · cases i
    case goto off => exact ov_bk hl hs h
    case ifCond o off =>
      simp only [mm_t] at h ⊢
      split at h
      · have hr := nS_t hs
        split at h <;> (split at h <;> rename_i c1 <;> simp only [c1, if_true, if_false] <;> exact ov_bk hl hr h)
      · cases h
    case if_icmp o off =>
      simp only [mm_t] at h ⊢
      split at h
      · have hr := nS_t (nS_t hs)
        split at h <;> (split at h <;> rename_i c1 <;> simp only [c1, if_true, if_false] <;> exact ov_bk hl hr h)
      · cases h
    case tableswitch =>
      simp only [mm_t] at h ⊢
      split at h
      · exact ov_sw hl (nS_t hs) h
      · cases h
    case lookupswitch =>
      simp only [mm_t] at h ⊢
      split at h
      · exact ov_sw hl (nS_t hs) h
      · cases h
    case ireturn =>
      simp only [mm_t] at h ⊢
      split at h
      · cases h
        exact ⟨rfl, fun v hv => by cases hv; trivial⟩
      · cases h
    case areturn =>
      simp only [mm_t] at h ⊢
      split at h
      · cases h
        exact ⟨rfl, fun v hv => by cases hv; exact nS_h hs⟩
      · cases h
    case return_ =>
      simp only [mm_t] at h ⊢
      split at h
      · cases h
        exact ⟨rfl, fun v hv => by cases hv⟩
      · cases h
    case invokevirtual idx =>
      simp only [mm_t] at h ⊢
      cases hr : mm_rcv inf.2.1 inf.2.2 st with
      | false => rw [hr] at h; cases h
      | true => rw [hr] at h; exact ov_cal hS hl hs h
    case invokestatic idx => exact ov_cal hS hl hs h
    case invokespecial idx =>
      simp only [mm_t] at h ⊢
      cases hr : mm_rcv inf.2.1 inf.2.2 st with
      | false => rw [hr] at h; cases h
      | true => rw [hr] at h; exact ov_cal hS hl hs h
    all_goals (cases h; done)
theorem ov_b {X : Nat → Nat → Int32} {S : Nat → List mm_V → mm_M → Option mm_R} (hS : oS X S) {es : List mm_E} {t : mm_T} : es.all okE = true → ∀ {lo : mm_L} {st : List mm_V} {μ : mm_M} {z : mm_Z}, nL lo → nS st → mm_b S mm_br mm_bk (es, t) lo st μ = some z → mm_b S mm_br mm_bk (es, t) lo st (ovM X μ) = some (oZ X z) ∧ nZ z := by
  induction es with
  | nil => intro _ lo st μ z hl hs h; exact ov_t hS hl hs h
  | cons e es ih =>
    intro ho lo st μ z hl hs h
    rw [List.all_cons, Bool.and_eq_true] at ho
    have h1 : mm_s e (mm_b S mm_br mm_bk (es, t)) lo st μ = some z := h
    show mm_s e (mm_b S mm_br mm_bk (es, t)) lo st (ovM X μ) = some (oZ X z) ∧ nZ z
    rw [mm_s_free] at h1 ⊢
    cases hq : mm_s e mm_fin lo st μ with
    | none => rw [hq] at h1; cases h1
    | some q =>
      rw [hq] at h1
      obtain ⟨a, b, c⟩ := q
      obtain ⟨o1, o2, o3⟩ := ov_s (X := X) ho.1 hl hs hq
      rw [o1]
      exact ih ho.2 o2 o3 h1
def okB (b : mm_B) : Bool := b.1.all okE
theorem ov_y {X : Nat → Nat → Int32} {P : Nat → Nat → mm_B} (hP : ∀ m k, okB (P m k) = true) {S : Nat → List mm_V → mm_M → Option mm_R} (hS : oS X S) {M : Nat} : ∀ {n k : Nat} {lo : mm_L} {st : List mm_V} {μ : mm_M} {r : mm_R}, nL lo → nS st → mm_y P S M n k lo st μ = some r → mm_y P S M n k lo st (ovM X μ) = some (r.1, ovM X r.2) ∧ ∀ v, r.1 = some v → n9 v := by
  intro n
  induction n with
  | zero => intro k lo st μ r _ _ h; cases h
  | succ n ih =>
    intro k lo st μ r hl hs h
    have h1 : mm_b S some (mm_y P S M n) ((P M k).1, (P M k).2) lo st μ = some r := h
    show mm_b S some (mm_y P S M n) ((P M k).1, (P M k).2) lo st (ovM X μ) = some (r.1, ovM X r.2) ∧ _
    rw [mm_b_free] at h1 ⊢
    cases hb : mm_b S mm_br mm_bk ((P M k).1, (P M k).2) lo st μ with
    | none => rw [hb] at h1; cases h1
    | some z =>
      rw [hb] at h1
      obtain ⟨b1, b2⟩ := ov_b hS (hP M k) hl hs hb
      rw [b1]
      obtain x | ⟨a, b, c, d⟩ := z
      · cases h1
        exact ⟨rfl, b2⟩
      · exact ih b2.1 b2.2 h1
theorem ov_S {X : Nat → Nat → Int32} {P : Nat → Nat → mm_B} (hP : ∀ m k, okB (P m k) = true) {N : Nat → Nat} : ∀ d, oS X (mm_S P N d) := by
  intro d
  induction d with
  | zero => intro m as μ r _ h; cases h
  | succ d ih =>
    intro m as μ r ha h
    obtain ⟨n, hn⟩ := mm_l_spec (show mm_l P (mm_S P N d) m 0 _ [] μ = some r from h)
    have hl : nL (as.map some ++ List.replicate (N m - as.length) none) := fun v hv => by
      rw [List.mem_append] at hv
      rcases hv with q | q
      · rw [List.mem_map] at q
        obtain ⟨w, w1, w2⟩ := q
        cases w2
        exact ha _ w1
      · cases (List.mem_replicate.mp q).2
    obtain ⟨y1, y2⟩ := ov_y hP ih hl (fun v hv => absurd hv List.not_mem_nil) hn
    exact ⟨mm_l_some y1, y2⟩
theorem at_all {α : Type} {p : α → Bool} {x : α} (hx : p x = true) : ∀ {l : List α} {n : Nat}, l.all p = true → p (mm_at x l n) = true
  | [], _, _ => hx
  | _ :: _, 0, h => by rw [List.all_cons, Bool.and_eq_true] at h; exact h.1
  | _ :: l, n + 1, h => by rw [List.all_cons, Bool.and_eq_true] at h; exact at_all hx (l := l) (n := n) h.2
def okT (l : List (List mm_B)) : Bool := l.all (fun bs => bs.all okB)
def okTT (t : List (List (List mm_B))) : Bool := t.all okT
theorem okB_TT : okTT TT = true := by decide +kernel
theorem okB_PP (m k : Nat) : okB (PP m k) = true := by
  have h1 : ∀ (t : List (List (List mm_B))), okTT t = true → okB (mm_at ([], .inl 0) (mm_at [] (mm_at [] t (m / 16)) (m % 16)) k) = true := by
    intro t ht
    have a1 : okT (mm_at [] t (m / 16)) = true := at_all (p := okT) rfl ht
    have a2 : (mm_at [] (mm_at [] t (m / 16)) (m % 16)).all okB = true := at_all (p := fun (bs : List mm_B) => bs.all okB) rfl (show (mm_at [] t (m / 16)).all (fun (bs : List mm_B) => bs.all okB) = true from a1)
    exact at_all (p := okB) rfl a2
  exact h1 TT okB_TT
theorem ov_id {I : mm_I} {sh : mm_Sh} : ovM (fun i j => I 199 i j) (sh, I) = (sh, I) := by
  unfold ovM
  refine congrArg (Prod.mk sh) ?_
  funext a b c
  dsimp only
  by_cases e : a = 199
  · rw [if_pos e, e]
  · rw [if_neg e]
/-- a call leaves the script as it is -/
theorem Sn_199 {d m : Nat} {as : List mm_V} {I I' : mm_I} {v : Option mm_V} (ha : nS as) (h : Sn d m as I = some (v, (sh0, I'))) : I' 199 = I 199 := by
  have := (ov_S (X := fun i j => I 199 i j) okB_PP d m as (sh0, I) _ ha h).1
  rw [ov_id] at this
  have h2 : some (v, (sh0, I')) = some (v, ovM (fun i j => I 199 i j) (sh0, I')) := h.symm.trans this
  have h3 : (sh0, I') = ovM (fun i j => I 199 i j) (sh0, I') := (Prod.mk.inj (Option.some.inj h2)).2
  have h4 : I' = (ovM (fun i j => I 199 i j) (sh0, I')).2 := (Prod.mk.inj h3).2
  rw [h4]
  funext i j
  show (if 199 = 199 then I 199 i j else I' 199 i j) = I 199 i j
  rw [if_pos rfl]
