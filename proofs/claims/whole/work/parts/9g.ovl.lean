/-! A run that holds nothing of kind 199 goes the same whatever stands there. -/
def ovM (X : Nat → Nat → Int32) (μ : mm_M) : mm_M := (μ.1, fun k i j => if k = 199 then X i j else μ.2 k i j)
def n9 : mm_V → Prop
  | .inl _ => True
  | .inr q => q.1 ≠ 199
def nS (st : List mm_V) : Prop := ∀ v ∈ st, n9 v
def nL (lo : mm_L) : Prop := ∀ v, some v ∈ lo → n9 v
theorem nS_c {v : mm_V} {st : List mm_V} (h : n9 v) (hs : nS st) : nS (v :: st) := fun w hw => by
  rw [List.mem_cons] at hw
  rcases hw with q | q
  · rw [q]; exact h
  · exact hs w q
theorem nS_t {v : mm_V} {st : List mm_V} (h : nS (v :: st)) : nS st := fun w hw => h w (List.mem_cons_of_mem _ hw)
theorem nS_h {v : mm_V} {st : List mm_V} (h : nS (v :: st)) : n9 v := h v (List.mem_cons_self ..)
theorem nth_mem {α : Type} : ∀ {l : List α} {i : Nat} {a : α}, mm_nth l i = some a → a ∈ l
  | [], _, _, h => by cases h
  | _ :: _, 0, _, h => by cases h; exact List.mem_cons_self ..
  | _ :: l, i + 1, _, h => List.mem_cons_of_mem _ (nth_mem (l := l) h)
theorem nL_g {lo : mm_L} {i : Nat} {v : mm_V} (h : nL lo) (e : mm_nth lo i = some (some v)) : n9 v := h v (nth_mem e)
theorem nL_s {lo : mm_L} {i : Nat} {v : mm_V} (h : nL lo) (hv : n9 v) : nL (lo.set i (some v)) := fun w hw => by
  rcases List.mem_or_eq_of_mem_set hw with q | q
  · exact h w q
  · cases q; exact hv
theorem ov_ln {X : Nat → Nat → Int32} {μ : mm_M} {k i : Nat} (h : k ≠ 199) : mm_ln (ovM X μ) k i = mm_ln μ k i := by
  have hb : ¬ (Nat.beq k 199 = true) := fun q => h (Nat.eq_of_beq_eq_true q)
  unfold mm_ln
  rw [mm_cond, mm_cond, if_neg hb, if_neg hb]
  rfl
theorem ov_rd {X : Nat → Nat → Int32} {μ : mm_M} {k i j : Nat} (h : k ≠ 199) : (ovM X μ).2 k i j = μ.2 k i j := if_neg h
theorem ov_up {X : Nat → Nat → Int32} {μ : mm_M} {k i j : Nat} {x : Int32} (h : k ≠ 199) : ((ovM X μ).1, mm_up (ovM X μ).2 k i j x) = ovM X (μ.1, mm_up μ.2 k i j x) := by
  unfold ovM
  refine congrArg (Prod.mk μ.1) ?_
  funext a b c
  unfold mm_up
  dsimp only
  by_cases e : a = 199
  · rw [if_pos e, if_neg (by omega), if_pos e]
  · rw [if_neg e, if_neg e]
theorem ov_cp {X : Nat → Nat → Int32} {μ : mm_M} {k i sp k2 i2 dp n : Nat} (h : k ≠ 199) (h2 : k2 ≠ 199) : ((ovM X μ).1, mm_cp (ovM X μ).2 k i sp k2 i2 dp n) = ovM X (μ.1, mm_cp μ.2 k i sp k2 i2 dp n) := by
  unfold ovM
  refine congrArg (Prod.mk μ.1) ?_
  funext a b c
  unfold mm_cp
  dsimp only
  rw [if_neg h]
  by_cases e : a = 199
  · rw [if_pos e, if_neg (by omega), if_pos e]
  · rw [if_neg e, if_neg e]
/-- what the row of a plain instruction must keep to -/
def okE (e : mm_E) : Bool := match e.2.1 with
  | .getfield _ => !Nat.beq e.2.2.2.1.2.2 200
  | .new _ => !Nat.beq e.2.2.2.1.1 199
  | .newarray _ => !Nat.beq e.2.2.2.1.1 199
  | .anewarray _ => !Nat.beq e.2.2.2.1.1 199
  | _ => true
theorem nbq {a b : Nat} (h : (!Nat.beq a b) = true) : a ≠ b := by
  intro q
  rw [q, Nat.beq_refl] at h
  cases h
section OVS
variable {X : Nat → Nat → Int32} {lo lo' : mm_L} {st st' : List mm_V} {μ μ' : mm_M}
/-- the same step, over any script -/
def OV (X : Nat → Nat → Int32) (z : Option (mm_L × List mm_V × mm_M)) (lo' : mm_L) (st' : List mm_V) (μ' : mm_M) : Prop := z = some (lo', st', ovM X μ') ∧ nL lo' ∧ nS st'
theorem ov_bin {f : Int32 → Int32 → Int32} (hl : nL lo) (hs : nS st) (h : mm_bin f mm_fin lo st μ = some (lo', st', μ')) : OV X (mm_bin f mm_fin lo st (ovM X μ)) lo' st' μ' := by
  unfold mm_bin at h ⊢
  split at h
  · cases h
    exact ⟨rfl, hl, nS_c trivial (nS_t (nS_t hs))⟩
  · cases h
theorem ov_load {i : Nat} (hl : nL lo) (hs : nS st) (h : mm_load i mm_fin lo st μ = some (lo', st', μ')) : OV X (mm_load i mm_fin lo st (ovM X μ)) lo' st' μ' := by
  unfold mm_load at h ⊢
  split at h
  · cases h
    exact ⟨rfl, hl, nS_c trivial hs⟩
  · cases h
theorem ov_loada {i : Nat} (hl : nL lo) (hs : nS st) (h : mm_loada i mm_fin lo st μ = some (lo', st', μ')) : OV X (mm_loada i mm_fin lo st (ovM X μ)) lo' st' μ' := by
  unfold mm_loada at h ⊢
  split at h
  · rename_i x e
    cases h
    exact ⟨rfl, hl, nS_c (nL_g hl e) hs⟩
  · cases h
theorem ov_store {i : Nat} (hl : nL lo) (hs : nS st) (h : mm_store i mm_fin lo st μ = some (lo', st', μ')) : OV X (mm_store i mm_fin lo st (ovM X μ)) lo' st' μ' := by
  unfold mm_store at h ⊢
  split at h
  · cases h
    exact ⟨rfl, nL_s hl trivial, nS_t hs⟩
  · cases h
theorem ov_storea {i : Nat} (hl : nL lo) (hs : nS st) (h : mm_storea i mm_fin lo st μ = some (lo', st', μ')) : OV X (mm_storea i mm_fin lo st (ovM X μ)) lo' st' μ' := by
  unfold mm_storea at h ⊢
  split at h
  · cases h
    exact ⟨rfl, nL_s hl (nS_h hs), nS_t hs⟩
  · cases h
theorem ov_ald {a b : Nat} (hl : nL lo) (hs : nS st) (h : mm_ald a b mm_fin lo st μ = some (lo', st', μ')) : OV X (mm_ald a b mm_fin lo st (ovM X μ)) lo' st' μ' := by
  unfold mm_ald at h ⊢
  simp only [mm_cond] at h ⊢
  split at h
  · rename_i x k i r
    have hk : k ≠ 199 := nS_h (nS_t hs)
    split at h
    · rename_i c1
      split at h
      · rename_i c2
        cases h
        rw [if_pos c1, ov_ln hk, if_pos c2, ov_rd hk]
        exact ⟨rfl, hl, nS_c trivial (nS_t (nS_t hs))⟩
      · cases h
    · cases h
  · cases h
theorem ov_ast {a b : Nat} {f : Int32 → Int32} (hl : nL lo) (hs : nS st) (h : mm_ast a b f mm_fin lo st μ = some (lo', st', μ')) : OV X (mm_ast a b f mm_fin lo st (ovM X μ)) lo' st' μ' := by
  unfold mm_ast at h ⊢
  simp only [mm_cond] at h ⊢
  split at h
  · rename_i v x k i r
    have hk : k ≠ 199 := nS_h (nS_t (nS_t hs))
    split at h
    · rename_i c1
      split at h
      · rename_i c2
        cases h
        rw [if_pos c1, ov_ln hk, if_pos c2, ov_up hk]
        exact ⟨rfl, hl, nS_t (nS_t (nS_t hs))⟩
      · cases h
    · cases h
  · cases h
set_option maxHeartbeats 4000000 in
theorem ov_s {e : mm_E} (ho : okE e = true) (hl : nL lo) (hs : nS st) (h : mm_s e mm_fin lo st μ = some (lo', st', μ')) : OV X (mm_s e mm_fin lo st (ovM X μ)) lo' st' μ' := by
  obtain ⟨pc, i, len, inf, cst⟩ := e
  cases i
  case iconst q =>
    cases h
    exact ⟨rfl, hl, nS_c trivial hs⟩
  case bipush q =>
    cases h
    exact ⟨rfl, hl, nS_c trivial hs⟩
  case sipush q =>
    cases h
    exact ⟨rfl, hl, nS_c trivial hs⟩
  case ldc_w q =>
    cases h
    exact ⟨rfl, hl, nS_c trivial hs⟩
  case ldc q =>
    simp only [mm_s, mm_cond] at h ⊢
    split at h
    · rename_i c1
      cases h
      rw [if_pos c1]
      exact ⟨rfl, hl, nS_c trivial hs⟩
    · rename_i c1
      cases h
      rw [if_neg c1]
      exact ⟨rfl, hl, nS_c (show (13 : Nat) ≠ 199 by decide) hs⟩
  case iload q =>
    exact ov_load hl hs h
  case iload_n q =>
    exact ov_load hl hs h
  case aload q =>
    exact ov_loada hl hs h
  case aload_n q =>
    exact ov_loada hl hs h
  case istore q =>
    exact ov_store hl hs h
  case istore_n q =>
    exact ov_store hl hs h
  case astore q =>
    exact ov_storea hl hs h
  case astore_n q =>
    exact ov_storea hl hs h
  case iinc q z =>
    simp only [mm_s] at h ⊢
    split at h
    · cases h
      exact ⟨rfl, nL_s hl trivial, hs⟩
    · cases h
  case iadd =>
    exact ov_bin hl hs h
  case isub =>
    exact ov_bin hl hs h
  case imul =>
    exact ov_bin hl hs h
  case iand =>
    exact ov_bin hl hs h
  case ishl =>
    exact ov_bin hl hs h
  case ishr =>
    exact ov_bin hl hs h
  case iushr =>
    exact ov_bin hl hs h
  case idiv =>
    simp only [mm_s] at h ⊢
    split at h
    · split at h
      · cases h
      · rename_i c1
        cases h
        rw [if_neg c1]
        exact ⟨rfl, hl, nS_c trivial (nS_t (nS_t hs))⟩
    · cases h
  case irem =>
    simp only [mm_s] at h ⊢
    split at h
    · split at h
      · cases h
      · rename_i c1
        cases h
        rw [if_neg c1]
        exact ⟨rfl, hl, nS_c trivial (nS_t (nS_t hs))⟩
    · cases h
  case i2c =>
    simp only [mm_s] at h ⊢
    split at h
    · cases h
      exact ⟨rfl, hl, nS_c trivial (nS_t hs)⟩
    · cases h
  case i2b =>
    simp only [mm_s] at h ⊢
    split at h
    · cases h
      exact ⟨rfl, hl, nS_c trivial (nS_t hs)⟩
    · cases h
  case dup =>
    simp only [mm_s] at h ⊢
    split at h
    · cases h
      exact ⟨rfl, hl, nS_c (nS_h hs) hs⟩
    · cases h
  case dup2 =>
    simp only [mm_s] at h ⊢
    split at h
    · cases h
      exact ⟨rfl, hl, nS_c (nS_h hs) (nS_c (nS_h (nS_t hs)) hs)⟩
    · cases h
  case pop =>
    simp only [mm_s] at h ⊢
    split at h
    · cases h
      exact ⟨rfl, hl, nS_t hs⟩
    · cases h
  case getfield q =>
    have ho2 : inf.2.2 ≠ 200 := nbq ho
    simp only [mm_s, mm_cond] at h ⊢
    split at h
    · rename_i k i r
      have hk : k ≠ 199 := nS_h hs
      split at h
      · rename_i c1
        rw [if_pos c1]
        split at h
        · cases h
          rw [ov_rd hk]
          exact ⟨rfl, hl, nS_c trivial (nS_t hs)⟩
        · rename_i t et
          split at h
          · cases h
          · rename_i q2 eq2
            cases h
            have e3 : (ovM X μ).1.2.2.1 k i inf.2.1 = q2 + 1 := eq2
            rw [e3]
            exact ⟨rfl, hl, nS_c (show t ≠ 199 by omega) (nS_t hs)⟩
      · cases h
    · cases h
  case putfield q =>
    simp only [mm_s, mm_cond] at h ⊢
    split at h
    · rename_i v k i r
      have hk : k ≠ 199 := nS_h (nS_t hs)
      split at h
      · rename_i c1
        rw [if_pos c1]
        split at h
        · cases h
          rw [ov_up hk]
          exact ⟨rfl, hl, nS_t (nS_t hs)⟩
        · split at h
          · rename_i c2
            cases h
            rw [if_pos c2, ov_up hk]
            exact ⟨rfl, hl, nS_t (nS_t hs)⟩
          · cases h
        · cases h
      · cases h
    · split at h
      · rename_i c1
        cases h
        rw [if_pos c1]
        exact ⟨rfl, hl, nS_t (nS_t hs)⟩
      · cases h
    · cases h
  case iaload =>
    exact ov_ald hl hs h
  case baload =>
    exact ov_ald hl hs h
  case caload =>
    exact ov_ald hl hs h
  case iastore =>
    exact ov_ast hl hs h
  case bastore =>
    exact ov_ast hl hs h
  case castore =>
    exact ov_ast hl hs h
  case aaload =>
    simp only [mm_s, mm_cond] at h ⊢
    split at h
    · rename_i x k i r
      have hk : k ≠ 199 := nS_h (nS_t hs)
      split at h
      · rename_i c1
        split at h
        · rename_i c2
          rw [if_pos c1, ov_ln hk, if_pos c2]
          split at h
          · cases h
          · rename_i q2 eq2
            cases h
            have e3 : (ovM X μ).1.2.2.1 k i x.toInt.toNat = q2 + 1 := eq2
            rw [e3]
            refine ⟨rfl, hl, nS_c ?_ (nS_t (nS_t hs))⟩
            show mm_ek k ≠ 199
            unfold mm_ek
            simp only [mm_cond]
            split
            · decide
            · split
              · decide
              · split <;> decide
        · cases h
      · cases h
    · cases h
  case aastore =>
    simp only [mm_s, mm_cond] at h ⊢
    split at h
    · rename_i t q x k i r
      have hk : k ≠ 199 := nS_h (nS_t (nS_t hs))
      split at h
      · rename_i c1
        split at h
        · rename_i c2
          cases h
          rw [if_pos c1, ov_ln hk, if_pos c2]
          exact ⟨rfl, hl, nS_t (nS_t (nS_t hs))⟩
        · cases h
      · cases h
    · cases h
  case arraylength =>
    simp only [mm_s, mm_cond] at h ⊢
    split at h
    · rename_i k i r
      have hk : k ≠ 199 := nS_h hs
      split at h
      · rename_i c1
        cases h
        rw [if_pos c1, ov_ln hk]
        exact ⟨rfl, hl, nS_c trivial (nS_t hs)⟩
      · cases h
    · cases h
  case new q =>
    have ho2 : inf.1 ≠ 199 := nbq ho
    simp only [mm_s] at h ⊢
    split at h
    · rename_i c1
      cases h
      rw [if_pos (show (ovM X μ).1.2.2.2.1 < 233 from c1)]
      exact ⟨rfl, hl, nS_c ho2 hs⟩
    · cases h
  case newarray q =>
    have ho2 : inf.1 ≠ 199 := nbq ho
    simp only [mm_s] at h ⊢
    split at h
    · rename_i x r
      split at h
      · rename_i c1
        cases h
        rw [if_pos (show (0 ≤ x.toInt ∧ x.toInt < 100000) ∧ (ovM X μ).1.2.2.2.1 < 233 from c1)]
        exact ⟨rfl, hl, nS_c ho2 (nS_t hs)⟩
      · cases h
    · cases h
  case anewarray q =>
    have ho2 : inf.1 ≠ 199 := nbq ho
    simp only [mm_s] at h ⊢
    split at h
    · rename_i x r
      split at h
      · rename_i c1
        cases h
        rw [if_pos (show (0 ≤ x.toInt ∧ x.toInt < 100000) ∧ (ovM X μ).1.2.2.2.1 < 233 from c1)]
        exact ⟨rfl, hl, nS_c ho2 (nS_t hs)⟩
      · cases h
    · cases h
  case invokespecial q =>
    simp only [mm_s, mm_cond] at h ⊢
    split at h
    · split at h
      · rename_i c1
        cases h
        rw [if_pos c1]
        exact ⟨rfl, hl, nS_t hs⟩
      · cases h
    · cases h
  case invokestatic q =>
    simp only [mm_s, mm_cond] at h ⊢
    split at h
    · rename_i e0
      split at h
      · rename_i c1
        rw [if_pos c1]
        exact ov_bin hl hs h
      · cases h
    · rename_i e0
      split at h
      · rename_i c1
        rw [if_pos c1]
        exact ov_bin hl hs h
      · cases h
    · split at h
      · rename_i n dp k2 i2 sp k i r
        have hk : k ≠ 199 := nS_h (nS_t (nS_t (nS_t (nS_t hs))))
        have hk2 : k2 ≠ 199 := nS_h (nS_t (nS_t hs))
        split at h
        · rename_i c1
          split at h
          · rename_i c2
            cases h
            rw [if_pos c1, ov_ln hk, ov_ln hk2, if_pos c2, ov_cp hk hk2]
            exact ⟨rfl, hl, nS_t (nS_t (nS_t (nS_t (nS_t hs))))⟩
          · cases h
        · cases h
      · cases h
  case invokevirtual q =>
    simp only [mm_s, mm_cond] at h ⊢
    split at h
    · split at h
      · split at h
        · rename_i c1
          cases h
          rw [if_pos c1]
          exact ⟨rfl, hl, nS_c trivial (nS_t hs)⟩
        · cases h
      · cases h
    · split at h
      · split at h
        · rename_i c1
          split at h
          · rename_i c2
            cases h
            rw [if_pos c1, if_pos c2]
            exact ⟨rfl, hl, nS_c trivial (nS_t (nS_t hs))⟩
          · cases h
        · cases h
      · cases h
    · split at h
      · split at h
        · rename_i c1
          cases h
          rw [if_pos c1]
          exact ⟨rfl, hl, nS_c trivial (nS_t (nS_t hs))⟩
        · cases h
      · cases h
  all_goals (cases h; done)
end OVS
