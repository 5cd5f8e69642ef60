/-- what a run has made grows -/
def mm_le (μ μ' : mm_M) : Prop := μ.1.2.2.2.1 ≤ μ'.1.2.2.2.1 ∧ μ.1.2.2.2.2 ≤ μ'.1.2.2.2.2
theorem mm_le_rf (μ : mm_M) : mm_le μ μ := ⟨Nat.le_refl _, Nat.le_refl _⟩
theorem mm_le_tr {a b c : mm_M} (h : mm_le a b) (h2 : mm_le b c) : mm_le a c := ⟨Nat.le_trans h.1 h2.1, Nat.le_trans h.2 h2.2⟩
theorem mm_le_nw (μ : mm_M) (k n sl : Nat) : mm_le μ (mm_newk μ k n sl) := ⟨Nat.le_succ _, Nat.le_add_right _ _⟩
theorem mm_le_ur (μ : mm_M) (k i j q : Nat) : mm_le μ (mm_upr μ k i j q) := ⟨Nat.le_refl _, Nat.le_refl _⟩
set_option maxHeartbeats 4000000 in
theorem mm_s_le {e : mm_E} {lo lo' : mm_L} {st st' : List mm_V} {μ μ' : mm_M} (h : mm_s e mm_fin lo st μ = some (lo', st', μ')) : mm_le μ μ' := by
  unfold mm_s at h
  split at h <;> (try simp only [mm_load, mm_loada, mm_store, mm_storea, mm_bin, mm_ald, mm_ast, mm_cond] at h) <;> (repeat' (first | (cases h; done) | (cases h; first | exact mm_le_rf _ | exact mm_le_nw _ _ _ _ | exact mm_le_ur _ _ _ _ _ | exact ⟨Nat.le_refl _, Nat.le_refl _⟩) | split at h))
def mm_zm (z : mm_R ⊕ (Nat × mm_L × List mm_V × mm_M)) : mm_M := match z with
  | .inl r => r.2
  | .inr q => q.2.2.2
theorem mm_sw_zm {K : Nat → Option (mm_R ⊕ (Nat × mm_L × List mm_V × mm_M))} {μ : mm_M} {x : Int32} {d : Nat} {l : List (Int32 × Nat)} {z : mm_R ⊕ (Nat × mm_L × List mm_V × mm_M)} (hK : ∀ k z, K k = some z → mm_le μ (mm_zm z)) (h : mm_sw K x d l = some z) : mm_le μ (mm_zm z) := by
  rcases mm_sw_in h with ⟨i, k, -, h2⟩ | ⟨-, h2⟩
  · exact hK _ _ h2
  · exact hK _ _ h2
theorem mm_bk_zm {k : Nat} {lo : mm_L} {st : List mm_V} {μ : mm_M} {z : mm_R ⊕ (Nat × mm_L × List mm_V × mm_M)} (h : mm_bk k lo st μ = some z) : mm_le μ (mm_zm z) := by
  cases h; exact mm_le_rf _
theorem mm_cont_zm {S : Nat → List mm_V → mm_M → Option mm_R} (hS : ∀ m as μ r, S m as μ = some r → mm_le μ r.2) {m k : Nat} {as : List mm_V} {lo : mm_L} {r : List mm_V} {μ : mm_M} {z : mm_R ⊕ (Nat × mm_L × List mm_V × mm_M)} (h : (S m as μ).bind (mm_cont (mm_bk k) lo r) = some z) : mm_le μ (mm_zm z) := by
  cases hq : S m as μ with
  | none => rw [hq] at h; cases h
  | some q =>
    rw [hq] at h
    have h1 := hS _ _ _ _ hq
    obtain ⟨v | v, μ2⟩ := q <;> (cases h; exact h1)
theorem mm_cal_zm {S : Nat → List mm_V → mm_M → Option mm_R} (hS : ∀ m as μ r, S m as μ = some r → mm_le μ r.2) {m n k : Nat} {lo : mm_L} {st : List mm_V} {μ : mm_M} {z : mm_R ⊕ (Nat × mm_L × List mm_V × mm_M)} (h : mm_cal S (mm_bk k) m n lo st μ = some z) : mm_le μ (mm_zm z) := by
  unfold mm_cal at h
  cases hc : Nat.ble n st.length && Nat.ble st.length (8 + n) with
  | false => rw [hc] at h; cases h
  | true => rw [hc] at h; exact mm_cont_zm hS h
set_option maxHeartbeats 4000000 in
theorem mm_t_le {S : Nat → List mm_V → mm_M → Option mm_R} (hS : ∀ m as μ r, S m as μ = some r → mm_le μ r.2) {t : mm_T} {lo : mm_L} {st : List mm_V} {μ : mm_M} {z : mm_R ⊕ (Nat × mm_L × List mm_V × mm_M)} (h : mm_t S mm_br mm_bk t lo st μ = some z) : mm_le μ (mm_zm z) := by
  unfold mm_t at h
  split at h
  · exact mm_bk_zm h
  · split at h <;> (try simp only [mm_cond] at h) <;> first
      | exact mm_bk_zm h
      | exact mm_cal_zm hS h
      | (cases h; done)
      | (split at h <;> first
        | exact mm_cal_zm hS h
        | exact mm_bk_zm h
        | (cases h; done)
        | (cases h; exact mm_le_rf _)
        | exact mm_sw_zm (fun k z hz => mm_bk_zm hz) h
        | (split at h <;> (split at h <;> exact mm_bk_zm h)))
theorem mm_b_le {S : Nat → List mm_V → mm_M → Option mm_R} (hS : ∀ m as μ r, S m as μ = some r → mm_le μ r.2) {es : List mm_E} {t : mm_T} : ∀ {lo : mm_L} {st : List mm_V} {μ : mm_M} {z : mm_R ⊕ (Nat × mm_L × List mm_V × mm_M)}, mm_b S mm_br mm_bk (es, t) lo st μ = some z → mm_le μ (mm_zm z) := by
  induction es with
  | nil => intro lo st μ z h; exact mm_t_le hS h
  | cons e es ih =>
    intro lo st μ z h
    have h1 : mm_s e (mm_b S mm_br mm_bk (es, t)) lo st μ = some z := h
    rw [mm_s_free] at h1
    cases hq : mm_s e mm_fin lo st μ with
    | none => rw [hq] at h1; cases h1
    | some q =>
      rw [hq] at h1
      obtain ⟨a, b, c⟩ := q
      exact mm_le_tr (mm_s_le hq) (ih h1)
theorem mm_y_le2 {P : Nat → Nat → mm_B} {S : Nat → List mm_V → mm_M → Option mm_R} (hS : ∀ m as μ r, S m as μ = some r → mm_le μ r.2) {M : Nat} : ∀ {n k : Nat} {lo : mm_L} {st : List mm_V} {μ : mm_M} {r : mm_R}, mm_y P S M n k lo st μ = some r → mm_le μ r.2 := by
  intro n
  induction n with
  | zero => intro k lo st μ r h; cases h
  | succ n ih =>
    intro k lo st μ r h
    have h1 : mm_b S some (mm_y P S M n) ((P M k).1, (P M k).2) lo st μ = some r := h
    rw [mm_b_free] at h1
    cases hb : mm_b S mm_br mm_bk ((P M k).1, (P M k).2) lo st μ with
    | none => rw [hb] at h1; cases h1
    | some z =>
      rw [hb] at h1
      have h2 := mm_b_le hS hb
      obtain x | ⟨a, b, c, d⟩ := z
      · cases h1; exact h2
      · exact mm_le_tr h2 (ih h1)
theorem mm_S_le {P : Nat → Nat → mm_B} {N : Nat → Nat} : ∀ (d m : Nat) (as : List mm_V) (μ : mm_M) (r : mm_R), mm_S P N d m as μ = some r → mm_le μ r.2 := by
  intro d
  induction d with
  | zero => intro m as μ r h; cases h
  | succ d ih =>
    intro m as μ r h
    obtain ⟨n, hn⟩ := mm_l_spec (show mm_l P (mm_S P N d) m 0 _ [] μ = some r from h)
    exact mm_y_le2 ih hn

/-- the three calls on String constants -/
def mm_Str : Prop := ∀ (p : Program) (l : Launch) (e : Env) (R : Room) (s : State) (m : MethodId) (args : Array Value) (below : List Frame) (meth : Method) (c : Code) (Q : State → Prop) (D : va_G) (ca : Nat → ClassId) (base b L : Nat) (xs : Nat → Int32) (sa : Nat → Nat) (M : Nat) (ad0 : Nat → Nat → Nat) (μ0 : mm_M) (lo lo' : mm_L) (st st' : List mm_V) (μ μ' : mm_M) (ad : Nat → Nat → Nat) (H : Heap) (ls : Array Slot) (locs : List Loc) (cells slots pc len : Nat) (inf : Nat × Nat × Nat) (cst : Int32) (idx : Nat), mm_cx p s m args meth c D ca base b L xs sa M → mm_ce M (pc, .invokevirtual idx, len, inf, cst) = true → mm_rl s D ca base b L xs sa M ad0 μ0 lo st μ ad H ls locs cells slots → mm_s (pc, .invokevirtual idx, len, inf, cst) mm_fin lo st μ = some (lo', st', μ') → 8 ≤ R.frames → 400 ≤ R.locals → cells ≤ R.cells → slots ≤ R.slots → (∀ (ad' : Nat → Nat → Nat) (H' : Heap) (ls' : Array Slot) (locs' : List Loc) (cells' slots' : Nat), mm_rl s D ca base b L xs sa M ad0 μ0 lo' st' μ' ad' H' ls' locs' cells' slots' → W p l e R s m args below meth c H' locs' cells' slots' Q (F0 m (pc + len) ls' (st'.map (mm_tr ad')))) → W p l e R s m args below meth c H locs cells slots Q (F0 m pc ls (st.map (mm_tr ad)))
section SIB
variable {p : Program} {l : Launch} {e : Env} {R : Room} {s : State} {m : MethodId} {args : Array Value} {below : List Frame} {meth : Method} {c : Code} {Q : State → Prop}
variable {D : va_G} {ca : Nat → ClassId} {base b L : Nat} {xs : Nat → Int32} {sa : Nat → Nat} {M : Nat} {ad0 : Nat → Nat → Nat} {μ0 : mm_M}
variable {lo lo' : mm_L} {st st' : List mm_V} {μ μ' : mm_M} {ad : Nat → Nat → Nat} {H : Heap} {ls : Array Slot} {locs : List Loc} {cells slots : Nat}
variable {pc len : Nat} {inf : Nat × Nat × Nat} {cst : Int32}

set_option maxHeartbeats 2000000 in
theorem mm_sim (hZ : mm_Str) (x : mm_E) (C : mm_cx p s m args meth c D ca base b L xs sa M) (hk : mm_ce M x = true) (rl : mm_rl s D ca base b L xs sa M ad0 μ0 lo st μ ad H ls locs cells slots) (h : mm_s x mm_fin lo st μ = some (lo', st', μ')) (hRc : μ'.1.2.2.2.1 ≤ μ0.1.2.2.2.1 + R.cells) (hRs : μ'.1.2.2.2.2 ≤ μ0.1.2.2.2.2 + R.slots) (hfr : 8 ≤ R.frames) (hlo : 400 ≤ R.locals) (kk : ∀ (ad' : Nat → Nat → Nat) (H' : Heap) (ls' : Array Slot) (locs' : List Loc) (cells' slots' : Nat), mm_rl s D ca base b L xs sa M ad0 μ0 lo' st' μ' ad' H' ls' locs' cells' slots' → W p l e R s m args below meth c H' locs' cells' slots' Q (F0 m (x.1 + x.2.2.1) ls' (st'.map (mm_tr ad')))) : W p l e R s m args below meth c H locs cells slots Q (F0 m x.1 ls (st.map (mm_tr ad))) := by
  obtain ⟨pc, i, len, inf, cst⟩ := x
  dsimp only at kk ⊢
  cases i
  case iconst n => exact sim_iconst C hk rl h kk
  case bipush n => exact sim_bipush C hk rl h kk
  case sipush n => exact sim_sipush C hk rl h kk
  case ldc n => exact sim_ldc C hk rl h kk
  case ldc_w n => exact sim_ldc_w C hk rl h kk
  case iload n => exact sim_iload C hk rl h kk
  case iload_n n => exact sim_iload_n C hk rl h kk
  case aload n => exact sim_aload C hk rl h kk
  case aload_n n => exact sim_aload_n C hk rl h kk
  case istore n => exact sim_istore C hk rl h kk
  case istore_n n => exact sim_istore_n C hk rl h kk
  case astore n => exact sim_astore C hk rl h kk
  case astore_n n => exact sim_astore_n C hk rl h kk
  case iinc n k => exact sim_iinc C hk rl h kk
  case iadd => exact sim_iadd C hk rl h kk
  case isub => exact sim_isub C hk rl h kk
  case imul => exact sim_imul C hk rl h kk
  case iand => exact sim_iand C hk rl h kk
  case ishl => exact sim_ishl C hk rl h kk
  case ishr => exact sim_ishr C hk rl h kk
  case iushr => exact sim_iushr C hk rl h kk
  case idiv => exact sim_idiv C hk rl h kk
  case irem => exact sim_irem C hk rl h kk
  case i2c => exact sim_i2c C hk rl h kk
  case i2b => exact sim_i2b C hk rl h kk
  case dup => exact sim_dup C hk rl h kk
  case dup2 => exact sim_dup2 C hk rl h kk
  case pop => exact sim_pop C hk rl h kk
  case getfield n => exact sim_getfield C hk rl h kk
  case putfield n => exact sim_putfield C hk rl h kk
  case iaload => exact sim_iaload C hk rl h kk
  case baload => exact sim_baload C hk rl h kk
  case caload => exact sim_caload C hk rl h kk
  case aaload => exact sim_aaload C hk rl h kk
  case iastore => exact sim_iastore C hk rl h kk
  case bastore => exact sim_bastore C hk rl h kk
  case castore => exact sim_castore C hk rl h kk
  case aastore => exact sim_aastore C hk rl h kk
  case arraylength => exact sim_arraylength C hk rl h kk
  case new n => exact sim_new C hk rl h hRc hRs (by omega) (by omega) kk
  case newarray n => exact sim_newarray C hk rl h hRc hRs (by omega) (by omega) kk
  case anewarray n => exact sim_anewarray C hk rl h hRc hRs (by omega) (by omega) kk
  case invokespecial n => exact sim_objinit C hk rl h hRc hRs (by omega) (by omega) kk
  case invokestatic n => exact sim_statics C hk rl h hRc hRs (by omega) (by omega) kk
  case invokevirtual n => exact hZ _ _ _ _ _ _ _ _ _ _ _ _ _ _ _ _ _ _ _ _ _ _ _ _ _ _ _ _ _ _ _ _ _ _ _ _ _ _ C hk rl h hfr hlo (by have := (mm_s_le h).1; have := rl.2.2.2.2.2.1; omega) (by have := (mm_s_le h).2; have := rl.2.2.2.2.2.2.1; omega) kk
  all_goals (exact absurd h (by simp [mm_s]))

/-- the place of what is left of a block -/
def mm_npc (M : Nat) (es : List mm_E) (t : mm_T) : Nat := match es with
  | x :: _ => x.1
  | [] => match t with
    | .inr x => x.1
    | .inl k => mm_npc0 (PP M k)
def mm_cb (M : Nat) : List mm_E → mm_T → Bool
  | [], t => match t with
    | .inr x => mm_ct M x
    | .inl _ => true
  | x :: es, t => mm_ce M x && x.1 + x.2.2.1 == mm_npc M es t && mm_cb M es t
theorem mm_simb (hZ : mm_Str) (C : mm_cx p s m args meth c D ca base b L xs sa M) (hfr : 8 ≤ R.frames) (hlo : 400 ≤ R.locals) {S : Nat → List mm_V → mm_M → Option mm_R} (hS : ∀ m as μ r, S m as μ = some r → mm_le μ r.2) {z : mm_R ⊕ (Nat × mm_L × List mm_V × mm_M)} (hzc : (mm_zm z).1.2.2.2.1 ≤ μ0.1.2.2.2.1 + R.cells) (hzs : (mm_zm z).1.2.2.2.2 ≤ μ0.1.2.2.2.2 + R.slots) {t : mm_T}
    (kt : ∀ (lo : mm_L) (st : List mm_V) (μ : mm_M) (ad : Nat → Nat → Nat) (H : Heap) (ls : Array Slot) (locs : List Loc) (cells slots : Nat), mm_t S mm_br mm_bk t lo st μ = some z → mm_cb M [] t = true → mm_rl s D ca base b L xs sa M ad0 μ0 lo st μ ad H ls locs cells slots → W p l e R s m args below meth c H locs cells slots Q (F0 m (mm_npc M [] t) ls (st.map (mm_tr ad)))) :
    ∀ (es : List mm_E) (lo : mm_L) (st : List mm_V) (μ : mm_M) (ad : Nat → Nat → Nat) (H : Heap) (ls : Array Slot) (locs : List Loc) (cells slots : Nat), mm_b S mm_br mm_bk (es, t) lo st μ = some z → mm_cb M es t = true → mm_rl s D ca base b L xs sa M ad0 μ0 lo st μ ad H ls locs cells slots → W p l e R s m args below meth c H locs cells slots Q (F0 m (mm_npc M es t) ls (st.map (mm_tr ad))) := by
  intro es
  induction es with
  | nil => intro lo st μ ad H ls locs cells slots h hk rl; exact kt lo st μ ad H ls locs cells slots h hk rl
  | cons x es ih =>
    intro lo st μ ad H ls locs cells slots h hk rl
    simp only [mm_cb, Bool.and_eq_true, beq_iff_eq] at hk
    obtain ⟨⟨hk1, hk2⟩, hk3⟩ := hk
    have h1 : mm_s x (mm_b S mm_br mm_bk (es, t)) lo st μ = some z := h
    rw [mm_s_free] at h1
    cases hq : mm_s x mm_fin lo st μ with
    | none => rw [hq] at h1; cases h1
    | some q =>
      rw [hq] at h1
      obtain ⟨lo', st', μ'⟩ := q
      have hle := mm_b_le hS h1
      refine mm_sim hZ x C hk1 rl hq (Nat.le_trans hle.1 hzc) (Nat.le_trans hle.2 hzs) hfr hlo (fun ad' H' ls' locs' cells' slots' rl' => ?_)
      rw [hk2]
      exact ih lo' st' μ' ad' H' ls' locs' cells' slots' h1 hk3 rl'

end SIB
