/-- the place where a block begins -/
def mm_npc0 (b : mm_B) : Nat := match b.1 with
  | e :: _ => e.1
  | [] => match b.2 with
    | .inr t => t.1
    | .inl _ => 0
def mm_al (M pc : Nat) : List (Int × Int) → List (Int32 × Nat) → Bool
  | [], [] => true
  | (a, o) :: ps, (v, k) :: cs => decide (v.toInt = a) && decide ((pc : Int) + o = (mm_npc0 (PP M k) : Int)) && mm_al M pc ps cs
  | _, _ => false
/-- what a block's end must say -/
def mm_ct (M : Nat) (x : Nat × Jvm.ClassFile.Instr × Nat × (Nat × Nat) × (Nat × Nat × Nat) × List (Int32 × Nat)) : Bool := match x.2.1 with
  | .goto off => decide (decode (mm_mc M) x.1 = .ok (x.2.1, x.2.2.1)) && x.2.2.1 == 3 && decide ((x.1 : Int) + off = (mm_npc0 (PP M x.2.2.2.1.1) : Int))
  | .ifCond _ off => decide (decode (mm_mc M) x.1 = .ok (x.2.1, x.2.2.1)) && x.2.2.1 == 3 && decide ((x.1 : Int) + off = (mm_npc0 (PP M x.2.2.2.1.1) : Int)) && x.1 + 3 == mm_npc0 (PP M x.2.2.2.1.2)
  | .if_icmp _ off => decide (decode (mm_mc M) x.1 = .ok (x.2.1, x.2.2.1)) && x.2.2.1 == 3 && decide ((x.1 : Int) + off = (mm_npc0 (PP M x.2.2.2.1.1) : Int)) && x.1 + 3 == mm_npc0 (PP M x.2.2.2.1.2)
  | .tableswitch d lo hi offs => decide (decode (mm_mc M) x.1 = .ok (x.2.1, x.2.2.1)) && decide ((x.1 : Int) + d = (mm_npc0 (PP M x.2.2.2.1.1) : Int)) && decide (lo + x.2.2.2.2.2.length = hi + 1) && (List.range x.2.2.2.2.2.length).all fun i => match x.2.2.2.2.2[i]?, offs[i]? with
    | some q, some o => decide (q.1.toInt = lo + i) && decide ((x.1 : Int) + o = (mm_npc0 (PP M q.2) : Int))
    | _, _ => false
  | .lookupswitch d ps => decide (decode (mm_mc M) x.1 = .ok (x.2.1, x.2.2.1)) && decide ((x.1 : Int) + d = (mm_npc0 (PP M x.2.2.2.1.1) : Int)) && (ps.toList.zip (ps.toList.drop 1)).all (fun (a, next) => a.1 < next.1) && mm_al M x.1 ps.toList x.2.2.2.2.2
  | .ireturn => decide (decode (mm_mc M) x.1 = .ok (x.2.1, x.2.2.1)) && x.2.2.1 == 1 && (match mm_mr M with
    | some .int => x.2.2.2.2.1.1 == 0
    | some .boolean => x.2.2.2.2.1.1 == 1
    | _ => false)
  | .areturn => decide (decode (mm_mc M) x.1 = .ok (x.2.1, x.2.2.1)) && x.2.2.1 == 1 && (match mm_mr M with
    | some (.object _) => true
    | _ => false)
  | .return_ => decide (decode (mm_mc M) x.1 = .ok (x.2.1, x.2.2.1)) && x.2.2.1 == 1 && decide (mm_mr M = none)
  | .invokevirtual idx => decide (decode (mm_mc M) x.1 = .ok (x.2.1, x.2.2.1)) && x.2.2.1 == 3 && x.1 + 3 == mm_npc0 (PP M x.2.2.2.1.1) && decide (x.2.2.2.2.1.1 < 246) && mm_has3 wx_m (mm_mo M) idx x.2.2.2.2.1.1 && (mm_mw x.2.2.2.2.1.1).2.2.2.2 == 0 && decide ((mm_my x.2.2.2.2.1.1).name ≠ "<init>") && x.2.2.2.2.1.2.1 == (mm_mw x.2.2.2.2.1.1).2.2.2.1 + 1 && mm_mo x.2.2.2.2.1.1 == x.2.2.2.2.1.2.2
  | .invokestatic idx => decide (decode (mm_mc M) x.1 = .ok (x.2.1, x.2.2.1)) && x.2.2.1 == 3 && x.1 + 3 == mm_npc0 (PP M x.2.2.2.1.1) && decide (x.2.2.2.2.1.1 < 246) && (mm_has3 wx_m (mm_mo M) idx x.2.2.2.2.1.1 || mm_has3 wx_n (mm_mo M) idx x.2.2.2.2.1.1) && (mm_mw x.2.2.2.2.1.1).2.2.2.2 == 1 && x.2.2.2.2.1.2.1 == (mm_mw x.2.2.2.2.1.1).2.2.2.1
  | .invokespecial idx => decide (decode (mm_mc M) x.1 = .ok (x.2.1, x.2.2.1)) && x.2.2.1 == 3 && x.1 + 3 == mm_npc0 (PP M x.2.2.2.1.1) && decide (x.2.2.2.2.1.1 < 246) && (mm_has3 wx_m (mm_mo M) idx x.2.2.2.2.1.1 || mm_has3 wx_n (mm_mo M) idx x.2.2.2.2.1.1) && (mm_mw x.2.2.2.2.1.1).2.2.2.2 == 0 && decide ((mm_my x.2.2.2.2.1.1).name = "<init>") && decide (mm_mr x.2.2.2.2.1.1 = none) && x.2.2.2.2.1.2.1 == (mm_mw x.2.2.2.2.1.1).2.2.2.1 + 1 && mm_mo x.2.2.2.2.1.1 == x.2.2.2.2.1.2.2
  | _ => true
theorem mm_sw_in {ρ : Type} {K : Nat → Option ρ} {x : Int32} {d : Nat} : ∀ {l : List (Int32 × Nat)} {z : Option ρ}, mm_sw K x d l = z → (∃ (i : Nat) (k : Nat), l[i]? = some (x, k) ∧ K k = z) ∨ ((∀ (i : Nat) (q : Int32 × Nat), l[i]? = some q → x ≠ q.1) ∧ K d = z)
  | [], z, h => Or.inr ⟨fun i q hq => by simp at hq, h⟩
  | (v, k) :: l, z, h => by
    unfold mm_sw at h
    split at h
    · rename_i e
      exact Or.inl ⟨0, k, by rw [e]; rfl, h⟩
    · rename_i e
      rcases mm_sw_in h with ⟨i, k', h1, h2⟩ | ⟨h1, h2⟩
      · exact Or.inl ⟨i + 1, k', h1, h2⟩
      · refine Or.inr ⟨fun i q hq => ?_, h2⟩
        cases i with
        | zero => cases hq; exact e
        | succ i => exact h1 i q hq
theorem mm_al_in {ρ : Type} {K : Nat → Option ρ} {M pc d : Nat} {dv : Int} {x : Int32} (hd : (pc : Int) + dv = (mm_npc0 (PP M d) : Int)) : ∀ {ps : List (Int × Int)} {cs : List (Int32 × Nat)}, mm_al M pc ps cs = true → ∃ (k : Nat) (off : Int), mm_sw K x d cs = K k ∧ Op.lookupswitch.offset ps dv x.toInt = off ∧ (pc : Int) + off = (mm_npc0 (PP M k) : Int)
  | [], [], _ => ⟨d, dv, rfl, rfl, hd⟩
  | (a, o) :: ps, (v, k) :: cs, h => by
    unfold mm_al at h
    simp only [Bool.and_eq_true, decide_eq_true_eq] at h
    obtain ⟨⟨h1, h2⟩, h3⟩ := h
    by_cases e : x = v
    · refine ⟨k, o, ?_, ?_, h2⟩
      · unfold mm_sw; rw [if_pos e]
      · subst e
        simp [Op.lookupswitch.offset, h1]
    · obtain ⟨k', off, g1, g2, g3⟩ := mm_al_in hd h3
      refine ⟨k', off, ?_, ?_, g3⟩
      · unfold mm_sw; rw [if_neg e]; exact g1
      · rw [lv_osw e h1]; exact g2
  | [], _ :: _, h => by cases h
  | _ :: _, [], h => by cases h

section SIT
variable {p : Program} {l : Launch} {e : Env} {R : Room} {s : State} {m : MethodId} {args : Array Value} {below : List Frame} {meth : Method} {c : Code} {Q : State → Prop}
variable {D : va_G} {ca : Nat → ClassId} {base b L : Nat} {xs : Nat → Int32} {sa : Nat → Nat} {M : Nat} {ad0 : Nat → Nat → Nat} {μ0 : mm_M}
variable {lo lo' : mm_L} {st st' : List mm_V} {μ μ' : mm_M} {ad : Nat → Nat → Nat} {H : Heap} {ls : Array Slot} {locs : List Loc} {cells slots : Nat}
variable {pc len : Nat} {inf : Nat × Nat × Nat} {cst : Int32}

theorem sit_goto {off : Int} {s0 s1 : Nat} {cs : List (Int32 × Nat)} {S : Nat → List mm_V → mm_M → Option mm_R} {kz : Nat} (C : mm_cx p s m args meth c D ca base b L xs sa M) (hk : mm_ct M (pc, .goto off, len, (s0, s1), inf, cs) = true) (rl : mm_rl s D ca base b L xs sa M ad0 μ0 lo st μ ad H ls locs cells slots) (h : mm_t S mm_br mm_bk (.inr (pc, .goto off, len, (s0, s1), inf, cs)) lo st μ = some (.inr (kz, lo', st', μ'))) (kk : mm_rl s D ca base b L xs sa M ad0 μ0 lo' st' μ' ad H ls locs cells slots → W p l e R s m args below meth c H locs cells slots Q (F0 m (mm_npc0 (PP M kz)) ls (st'.map (mm_tr ad)))) : W p l e R s m args below meth c H locs cells slots Q (F0 m pc ls (st.map (mm_tr ad))) := by
  obtain ⟨hx, hb, hml, hown, hts, hK, hnm, hbs, hX, hbb, hnw, hsx, hlk⟩ := id C
  simp only [mm_ct, Bool.and_eq_true, decide_eq_true_eq, beq_iff_eq] at hk
  obtain ⟨⟨hd, rfl⟩, ht⟩ := hk
  cases h
  exact lv_goto hx hb hd ht (kk rl)

theorem sit_ifCond_eq {off : Int} {s0 s1 : Nat} {cs : List (Int32 × Nat)} {S : Nat → List mm_V → mm_M → Option mm_R} {kz : Nat} (C : mm_cx p s m args meth c D ca base b L xs sa M) (hk : mm_ct M (pc, .ifCond .eq off, len, (s0, s1), inf, cs) = true) (rl : mm_rl s D ca base b L xs sa M ad0 μ0 lo st μ ad H ls locs cells slots) (h : mm_t S mm_br mm_bk (.inr (pc, .ifCond .eq off, len, (s0, s1), inf, cs)) lo st μ = some (.inr (kz, lo', st', μ'))) (kk : mm_rl s D ca base b L xs sa M ad0 μ0 lo' st' μ' ad H ls locs cells slots → W p l e R s m args below meth c H locs cells slots Q (F0 m (mm_npc0 (PP M kz)) ls (st'.map (mm_tr ad)))) : W p l e R s m args below meth c H locs cells slots Q (F0 m pc ls (st.map (mm_tr ad))) := by
  obtain ⟨hx, hb, hml, hown, hts, hK, hnm, hbs, hX, hbb, hnw, hsx, hlk⟩ := id C
  simp only [mm_ct, Bool.and_eq_true, decide_eq_true_eq, beq_iff_eq] at hk
  obtain ⟨⟨⟨hd, rfl⟩, ht⟩, hf⟩ := hk
  simp only [mm_t] at h
  split at h
  · rename_i x r
    refine lv_if_eq hx hb hd ht (fun c => ?_) (fun c => ?_)
    · rw [if_pos c] at h
      cases h
      exact kk (mm_rl_tail rl)
    · rw [if_neg c] at h
      cases h
      rw [hf]
      exact kk (mm_rl_tail rl)
  · cases h

theorem sit_ifCond_ne {off : Int} {s0 s1 : Nat} {cs : List (Int32 × Nat)} {S : Nat → List mm_V → mm_M → Option mm_R} {kz : Nat} (C : mm_cx p s m args meth c D ca base b L xs sa M) (hk : mm_ct M (pc, .ifCond .ne off, len, (s0, s1), inf, cs) = true) (rl : mm_rl s D ca base b L xs sa M ad0 μ0 lo st μ ad H ls locs cells slots) (h : mm_t S mm_br mm_bk (.inr (pc, .ifCond .ne off, len, (s0, s1), inf, cs)) lo st μ = some (.inr (kz, lo', st', μ'))) (kk : mm_rl s D ca base b L xs sa M ad0 μ0 lo' st' μ' ad H ls locs cells slots → W p l e R s m args below meth c H locs cells slots Q (F0 m (mm_npc0 (PP M kz)) ls (st'.map (mm_tr ad)))) : W p l e R s m args below meth c H locs cells slots Q (F0 m pc ls (st.map (mm_tr ad))) := by
  obtain ⟨hx, hb, hml, hown, hts, hK, hnm, hbs, hX, hbb, hnw, hsx, hlk⟩ := id C
  simp only [mm_ct, Bool.and_eq_true, decide_eq_true_eq, beq_iff_eq] at hk
  obtain ⟨⟨⟨hd, rfl⟩, ht⟩, hf⟩ := hk
  simp only [mm_t] at h
  split at h
  · rename_i x r
    refine lv_if_ne hx hb hd ht (fun c => ?_) (fun c => ?_)
    · rw [if_neg c] at h
      cases h
      exact kk (mm_rl_tail rl)
    · rw [if_pos c] at h
      cases h
      rw [hf]
      exact kk (mm_rl_tail rl)
  · cases h

theorem sit_ifCond_lt {off : Int} {s0 s1 : Nat} {cs : List (Int32 × Nat)} {S : Nat → List mm_V → mm_M → Option mm_R} {kz : Nat} (C : mm_cx p s m args meth c D ca base b L xs sa M) (hk : mm_ct M (pc, .ifCond .lt off, len, (s0, s1), inf, cs) = true) (rl : mm_rl s D ca base b L xs sa M ad0 μ0 lo st μ ad H ls locs cells slots) (h : mm_t S mm_br mm_bk (.inr (pc, .ifCond .lt off, len, (s0, s1), inf, cs)) lo st μ = some (.inr (kz, lo', st', μ'))) (kk : mm_rl s D ca base b L xs sa M ad0 μ0 lo' st' μ' ad H ls locs cells slots → W p l e R s m args below meth c H locs cells slots Q (F0 m (mm_npc0 (PP M kz)) ls (st'.map (mm_tr ad)))) : W p l e R s m args below meth c H locs cells slots Q (F0 m pc ls (st.map (mm_tr ad))) := by
  obtain ⟨hx, hb, hml, hown, hts, hK, hnm, hbs, hX, hbb, hnw, hsx, hlk⟩ := id C
  simp only [mm_ct, Bool.and_eq_true, decide_eq_true_eq, beq_iff_eq] at hk
  obtain ⟨⟨⟨hd, rfl⟩, ht⟩, hf⟩ := hk
  simp only [mm_t] at h
  split at h
  · rename_i x r
    refine lv_if_lt hx hb hd ht (fun c => ?_) (fun c => ?_)
    · rw [if_pos c] at h
      cases h
      exact kk (mm_rl_tail rl)
    · rw [if_neg c] at h
      cases h
      rw [hf]
      exact kk (mm_rl_tail rl)
  · cases h

theorem sit_ifCond_ge {off : Int} {s0 s1 : Nat} {cs : List (Int32 × Nat)} {S : Nat → List mm_V → mm_M → Option mm_R} {kz : Nat} (C : mm_cx p s m args meth c D ca base b L xs sa M) (hk : mm_ct M (pc, .ifCond .ge off, len, (s0, s1), inf, cs) = true) (rl : mm_rl s D ca base b L xs sa M ad0 μ0 lo st μ ad H ls locs cells slots) (h : mm_t S mm_br mm_bk (.inr (pc, .ifCond .ge off, len, (s0, s1), inf, cs)) lo st μ = some (.inr (kz, lo', st', μ'))) (kk : mm_rl s D ca base b L xs sa M ad0 μ0 lo' st' μ' ad H ls locs cells slots → W p l e R s m args below meth c H locs cells slots Q (F0 m (mm_npc0 (PP M kz)) ls (st'.map (mm_tr ad)))) : W p l e R s m args below meth c H locs cells slots Q (F0 m pc ls (st.map (mm_tr ad))) := by
  obtain ⟨hx, hb, hml, hown, hts, hK, hnm, hbs, hX, hbb, hnw, hsx, hlk⟩ := id C
  simp only [mm_ct, Bool.and_eq_true, decide_eq_true_eq, beq_iff_eq] at hk
  obtain ⟨⟨⟨hd, rfl⟩, ht⟩, hf⟩ := hk
  simp only [mm_t] at h
  split at h
  · rename_i x r
    refine lv_if_ge hx hb hd ht (fun c => ?_) (fun c => ?_)
    · rw [if_neg (Int32.not_lt.mpr c)] at h
      cases h
      exact kk (mm_rl_tail rl)
    · rw [if_pos (Int32.not_le.mp c)] at h
      cases h
      rw [hf]
      exact kk (mm_rl_tail rl)
  · cases h

theorem sit_ifCond_gt {off : Int} {s0 s1 : Nat} {cs : List (Int32 × Nat)} {S : Nat → List mm_V → mm_M → Option mm_R} {kz : Nat} (C : mm_cx p s m args meth c D ca base b L xs sa M) (hk : mm_ct M (pc, .ifCond .gt off, len, (s0, s1), inf, cs) = true) (rl : mm_rl s D ca base b L xs sa M ad0 μ0 lo st μ ad H ls locs cells slots) (h : mm_t S mm_br mm_bk (.inr (pc, .ifCond .gt off, len, (s0, s1), inf, cs)) lo st μ = some (.inr (kz, lo', st', μ'))) (kk : mm_rl s D ca base b L xs sa M ad0 μ0 lo' st' μ' ad H ls locs cells slots → W p l e R s m args below meth c H locs cells slots Q (F0 m (mm_npc0 (PP M kz)) ls (st'.map (mm_tr ad)))) : W p l e R s m args below meth c H locs cells slots Q (F0 m pc ls (st.map (mm_tr ad))) := by
  obtain ⟨hx, hb, hml, hown, hts, hK, hnm, hbs, hX, hbb, hnw, hsx, hlk⟩ := id C
  simp only [mm_ct, Bool.and_eq_true, decide_eq_true_eq, beq_iff_eq] at hk
  obtain ⟨⟨⟨hd, rfl⟩, ht⟩, hf⟩ := hk
  simp only [mm_t] at h
  split at h
  · rename_i x r
    refine lv_if_gt hx hb hd ht (fun c => ?_) (fun c => ?_)
    · rw [if_pos c] at h
      cases h
      exact kk (mm_rl_tail rl)
    · rw [if_neg c] at h
      cases h
      rw [hf]
      exact kk (mm_rl_tail rl)
  · cases h

theorem sit_ifCond_le {off : Int} {s0 s1 : Nat} {cs : List (Int32 × Nat)} {S : Nat → List mm_V → mm_M → Option mm_R} {kz : Nat} (C : mm_cx p s m args meth c D ca base b L xs sa M) (hk : mm_ct M (pc, .ifCond .le off, len, (s0, s1), inf, cs) = true) (rl : mm_rl s D ca base b L xs sa M ad0 μ0 lo st μ ad H ls locs cells slots) (h : mm_t S mm_br mm_bk (.inr (pc, .ifCond .le off, len, (s0, s1), inf, cs)) lo st μ = some (.inr (kz, lo', st', μ'))) (kk : mm_rl s D ca base b L xs sa M ad0 μ0 lo' st' μ' ad H ls locs cells slots → W p l e R s m args below meth c H locs cells slots Q (F0 m (mm_npc0 (PP M kz)) ls (st'.map (mm_tr ad)))) : W p l e R s m args below meth c H locs cells slots Q (F0 m pc ls (st.map (mm_tr ad))) := by
  obtain ⟨hx, hb, hml, hown, hts, hK, hnm, hbs, hX, hbb, hnw, hsx, hlk⟩ := id C
  simp only [mm_ct, Bool.and_eq_true, decide_eq_true_eq, beq_iff_eq] at hk
  obtain ⟨⟨⟨hd, rfl⟩, ht⟩, hf⟩ := hk
  simp only [mm_t] at h
  split at h
  · rename_i x r
    refine lv_if_le hx hb hd ht (fun c => ?_) (fun c => ?_)
    · rw [if_neg (Int32.not_lt.mpr c)] at h
      cases h
      exact kk (mm_rl_tail rl)
    · rw [if_pos (Int32.not_le.mp c)] at h
      cases h
      rw [hf]
      exact kk (mm_rl_tail rl)
  · cases h

theorem sit_if_icmp_eq {off : Int} {s0 s1 : Nat} {cs : List (Int32 × Nat)} {S : Nat → List mm_V → mm_M → Option mm_R} {kz : Nat} (C : mm_cx p s m args meth c D ca base b L xs sa M) (hk : mm_ct M (pc, .if_icmp .eq off, len, (s0, s1), inf, cs) = true) (rl : mm_rl s D ca base b L xs sa M ad0 μ0 lo st μ ad H ls locs cells slots) (h : mm_t S mm_br mm_bk (.inr (pc, .if_icmp .eq off, len, (s0, s1), inf, cs)) lo st μ = some (.inr (kz, lo', st', μ'))) (kk : mm_rl s D ca base b L xs sa M ad0 μ0 lo' st' μ' ad H ls locs cells slots → W p l e R s m args below meth c H locs cells slots Q (F0 m (mm_npc0 (PP M kz)) ls (st'.map (mm_tr ad)))) : W p l e R s m args below meth c H locs cells slots Q (F0 m pc ls (st.map (mm_tr ad))) := by
  obtain ⟨hx, hb, hml, hown, hts, hK, hnm, hbs, hX, hbb, hnw, hsx, hlk⟩ := id C
  simp only [mm_ct, Bool.and_eq_true, decide_eq_true_eq, beq_iff_eq] at hk
  obtain ⟨⟨⟨hd, rfl⟩, ht⟩, hf⟩ := hk
  simp only [mm_t] at h
  split at h
  · rename_i y x r
    refine lv_icmp_eq hx hb hd ht (fun c => ?_) (fun c => ?_)
    · rw [if_pos c] at h
      cases h
      exact kk (mm_rl_tail (mm_rl_tail rl))
    · rw [if_neg c] at h
      cases h
      rw [hf]
      exact kk (mm_rl_tail (mm_rl_tail rl))
  · cases h

theorem sit_if_icmp_ne {off : Int} {s0 s1 : Nat} {cs : List (Int32 × Nat)} {S : Nat → List mm_V → mm_M → Option mm_R} {kz : Nat} (C : mm_cx p s m args meth c D ca base b L xs sa M) (hk : mm_ct M (pc, .if_icmp .ne off, len, (s0, s1), inf, cs) = true) (rl : mm_rl s D ca base b L xs sa M ad0 μ0 lo st μ ad H ls locs cells slots) (h : mm_t S mm_br mm_bk (.inr (pc, .if_icmp .ne off, len, (s0, s1), inf, cs)) lo st μ = some (.inr (kz, lo', st', μ'))) (kk : mm_rl s D ca base b L xs sa M ad0 μ0 lo' st' μ' ad H ls locs cells slots → W p l e R s m args below meth c H locs cells slots Q (F0 m (mm_npc0 (PP M kz)) ls (st'.map (mm_tr ad)))) : W p l e R s m args below meth c H locs cells slots Q (F0 m pc ls (st.map (mm_tr ad))) := by
  obtain ⟨hx, hb, hml, hown, hts, hK, hnm, hbs, hX, hbb, hnw, hsx, hlk⟩ := id C
  simp only [mm_ct, Bool.and_eq_true, decide_eq_true_eq, beq_iff_eq] at hk
  obtain ⟨⟨⟨hd, rfl⟩, ht⟩, hf⟩ := hk
  simp only [mm_t] at h
  split at h
  · rename_i y x r
    refine lv_icmp_ne hx hb hd ht (fun c => ?_) (fun c => ?_)
    · rw [if_neg c] at h
      cases h
      exact kk (mm_rl_tail (mm_rl_tail rl))
    · rw [if_pos c] at h
      cases h
      rw [hf]
      exact kk (mm_rl_tail (mm_rl_tail rl))
  · cases h

theorem sit_if_icmp_lt {off : Int} {s0 s1 : Nat} {cs : List (Int32 × Nat)} {S : Nat → List mm_V → mm_M → Option mm_R} {kz : Nat} (C : mm_cx p s m args meth c D ca base b L xs sa M) (hk : mm_ct M (pc, .if_icmp .lt off, len, (s0, s1), inf, cs) = true) (rl : mm_rl s D ca base b L xs sa M ad0 μ0 lo st μ ad H ls locs cells slots) (h : mm_t S mm_br mm_bk (.inr (pc, .if_icmp .lt off, len, (s0, s1), inf, cs)) lo st μ = some (.inr (kz, lo', st', μ'))) (kk : mm_rl s D ca base b L xs sa M ad0 μ0 lo' st' μ' ad H ls locs cells slots → W p l e R s m args below meth c H locs cells slots Q (F0 m (mm_npc0 (PP M kz)) ls (st'.map (mm_tr ad)))) : W p l e R s m args below meth c H locs cells slots Q (F0 m pc ls (st.map (mm_tr ad))) := by
  obtain ⟨hx, hb, hml, hown, hts, hK, hnm, hbs, hX, hbb, hnw, hsx, hlk⟩ := id C
  simp only [mm_ct, Bool.and_eq_true, decide_eq_true_eq, beq_iff_eq] at hk
  obtain ⟨⟨⟨hd, rfl⟩, ht⟩, hf⟩ := hk
  simp only [mm_t] at h
  split at h
  · rename_i y x r
    refine lv_icmp_lt hx hb hd ht (fun c => ?_) (fun c => ?_)
    · rw [if_pos c] at h
      cases h
      exact kk (mm_rl_tail (mm_rl_tail rl))
    · rw [if_neg c] at h
      cases h
      rw [hf]
      exact kk (mm_rl_tail (mm_rl_tail rl))
  · cases h

theorem sit_if_icmp_ge {off : Int} {s0 s1 : Nat} {cs : List (Int32 × Nat)} {S : Nat → List mm_V → mm_M → Option mm_R} {kz : Nat} (C : mm_cx p s m args meth c D ca base b L xs sa M) (hk : mm_ct M (pc, .if_icmp .ge off, len, (s0, s1), inf, cs) = true) (rl : mm_rl s D ca base b L xs sa M ad0 μ0 lo st μ ad H ls locs cells slots) (h : mm_t S mm_br mm_bk (.inr (pc, .if_icmp .ge off, len, (s0, s1), inf, cs)) lo st μ = some (.inr (kz, lo', st', μ'))) (kk : mm_rl s D ca base b L xs sa M ad0 μ0 lo' st' μ' ad H ls locs cells slots → W p l e R s m args below meth c H locs cells slots Q (F0 m (mm_npc0 (PP M kz)) ls (st'.map (mm_tr ad)))) : W p l e R s m args below meth c H locs cells slots Q (F0 m pc ls (st.map (mm_tr ad))) := by
  obtain ⟨hx, hb, hml, hown, hts, hK, hnm, hbs, hX, hbb, hnw, hsx, hlk⟩ := id C
  simp only [mm_ct, Bool.and_eq_true, decide_eq_true_eq, beq_iff_eq] at hk
  obtain ⟨⟨⟨hd, rfl⟩, ht⟩, hf⟩ := hk
  simp only [mm_t] at h
  split at h
  · rename_i y x r
    refine lv_icmp_ge hx hb hd ht (fun c => ?_) (fun c => ?_)
    · rw [if_neg (Int32.not_lt.mpr c)] at h
      cases h
      exact kk (mm_rl_tail (mm_rl_tail rl))
    · rw [if_pos (Int32.not_le.mp c)] at h
      cases h
      rw [hf]
      exact kk (mm_rl_tail (mm_rl_tail rl))
  · cases h

theorem sit_if_icmp_gt {off : Int} {s0 s1 : Nat} {cs : List (Int32 × Nat)} {S : Nat → List mm_V → mm_M → Option mm_R} {kz : Nat} (C : mm_cx p s m args meth c D ca base b L xs sa M) (hk : mm_ct M (pc, .if_icmp .gt off, len, (s0, s1), inf, cs) = true) (rl : mm_rl s D ca base b L xs sa M ad0 μ0 lo st μ ad H ls locs cells slots) (h : mm_t S mm_br mm_bk (.inr (pc, .if_icmp .gt off, len, (s0, s1), inf, cs)) lo st μ = some (.inr (kz, lo', st', μ'))) (kk : mm_rl s D ca base b L xs sa M ad0 μ0 lo' st' μ' ad H ls locs cells slots → W p l e R s m args below meth c H locs cells slots Q (F0 m (mm_npc0 (PP M kz)) ls (st'.map (mm_tr ad)))) : W p l e R s m args below meth c H locs cells slots Q (F0 m pc ls (st.map (mm_tr ad))) := by
  obtain ⟨hx, hb, hml, hown, hts, hK, hnm, hbs, hX, hbb, hnw, hsx, hlk⟩ := id C
  simp only [mm_ct, Bool.and_eq_true, decide_eq_true_eq, beq_iff_eq] at hk
  obtain ⟨⟨⟨hd, rfl⟩, ht⟩, hf⟩ := hk
  simp only [mm_t] at h
  split at h
  · rename_i y x r
    refine lv_icmp_gt hx hb hd ht (fun c => ?_) (fun c => ?_)
    · rw [if_pos c] at h
      cases h
      exact kk (mm_rl_tail (mm_rl_tail rl))
    · rw [if_neg c] at h
      cases h
      rw [hf]
      exact kk (mm_rl_tail (mm_rl_tail rl))
  · cases h

theorem sit_if_icmp_le {off : Int} {s0 s1 : Nat} {cs : List (Int32 × Nat)} {S : Nat → List mm_V → mm_M → Option mm_R} {kz : Nat} (C : mm_cx p s m args meth c D ca base b L xs sa M) (hk : mm_ct M (pc, .if_icmp .le off, len, (s0, s1), inf, cs) = true) (rl : mm_rl s D ca base b L xs sa M ad0 μ0 lo st μ ad H ls locs cells slots) (h : mm_t S mm_br mm_bk (.inr (pc, .if_icmp .le off, len, (s0, s1), inf, cs)) lo st μ = some (.inr (kz, lo', st', μ'))) (kk : mm_rl s D ca base b L xs sa M ad0 μ0 lo' st' μ' ad H ls locs cells slots → W p l e R s m args below meth c H locs cells slots Q (F0 m (mm_npc0 (PP M kz)) ls (st'.map (mm_tr ad)))) : W p l e R s m args below meth c H locs cells slots Q (F0 m pc ls (st.map (mm_tr ad))) := by
  obtain ⟨hx, hb, hml, hown, hts, hK, hnm, hbs, hX, hbb, hnw, hsx, hlk⟩ := id C
  simp only [mm_ct, Bool.and_eq_true, decide_eq_true_eq, beq_iff_eq] at hk
  obtain ⟨⟨⟨hd, rfl⟩, ht⟩, hf⟩ := hk
  simp only [mm_t] at h
  split at h
  · rename_i y x r
    refine lv_icmp_le hx hb hd ht (fun c => ?_) (fun c => ?_)
    · rw [if_neg (Int32.not_lt.mpr c)] at h
      cases h
      exact kk (mm_rl_tail (mm_rl_tail rl))
    · rw [if_pos (Int32.not_le.mp c)] at h
      cases h
      rw [hf]
      exact kk (mm_rl_tail (mm_rl_tail rl))
  · cases h

theorem sit_tableswitch {d tl th : Int} {offs : Array Int} {s0 s1 : Nat} {cs : List (Int32 × Nat)} {S : Nat → List mm_V → mm_M → Option mm_R} {kz : Nat} (C : mm_cx p s m args meth c D ca base b L xs sa M) (hk : mm_ct M (pc, .tableswitch d tl th offs, len, (s0, s1), inf, cs) = true) (rl : mm_rl s D ca base b L xs sa M ad0 μ0 lo st μ ad H ls locs cells slots) (h : mm_t S mm_br mm_bk (.inr (pc, .tableswitch d tl th offs, len, (s0, s1), inf, cs)) lo st μ = some (.inr (kz, lo', st', μ'))) (kk : mm_rl s D ca base b L xs sa M ad0 μ0 lo' st' μ' ad H ls locs cells slots → W p l e R s m args below meth c H locs cells slots Q (F0 m (mm_npc0 (PP M kz)) ls (st'.map (mm_tr ad)))) : W p l e R s m args below meth c H locs cells slots Q (F0 m pc ls (st.map (mm_tr ad))) := by
  obtain ⟨hx, hb, hml, hown, hts, hK, hnm, hbs, hX, hbb, hnw, hsx, hlk⟩ := id C
  simp only [mm_ct, Bool.and_eq_true, decide_eq_true_eq, beq_iff_eq] at hk
  obtain ⟨⟨⟨hd, ht⟩, hlen⟩, hall⟩ := hk
  simp only [mm_t] at h
  split at h
  · rename_i x r
    have hcs : ∀ (i : Nat) (q : Int32 × Nat), cs[i]? = some q → i < cs.length ∧ q.1.toInt = tl + i ∧ ∃ o, offs[i]? = some o ∧ (pc : Int) + o = (mm_npc0 (PP M q.2) : Int) := by
      intro i q hq
      have hi : i < cs.length := (List.getElem?_eq_some_iff.mp hq).1
      have h1 := List.all_eq_true.mp hall i (List.mem_range.mpr hi)
      rw [hq] at h1
      cases ho : offs[i]? with
      | none => rw [ho] at h1; cases h1
      | some o =>
        rw [ho] at h1
        simp only [Bool.and_eq_true, decide_eq_true_eq] at h1
        exact ⟨hi, h1.1, o, rfl, h1.2⟩
    rcases mm_sw_in h with ⟨i, k, h1, h2⟩ | ⟨h1, h2⟩
    · cases h2
      obtain ⟨hi, e1, o, e2, e3⟩ := hcs i _ h1
      dsimp only at e1 e3
      refine lv_tableIn (off := o) hx hb hd (by omega) (by omega) ?_ e3 (kk (mm_rl_tail rl))
      rw [show (x.toInt - tl).toNat = i by omega]
      exact e2
    · cases h2
      refine lv_tableOut hx hb hd ?_ ht (kk (mm_rl_tail rl))
      by_cases g1 : x.toInt < tl
      · exact Or.inl g1
      · by_cases g2 : th < x.toInt
        · exact Or.inr g2
        · exfalso
          have hi : (x.toInt - tl).toNat < cs.length := by omega
          have hq := List.getElem?_eq_getElem hi
          obtain ⟨-, e1, -⟩ := hcs _ _ hq
          exact h1 _ _ hq (Int32.toInt_inj.mp (by omega))
  · cases h

theorem sit_lookupswitch {d : Int} {ps : Array (Int × Int)} {s0 s1 : Nat} {cs : List (Int32 × Nat)} {S : Nat → List mm_V → mm_M → Option mm_R} {kz : Nat} (C : mm_cx p s m args meth c D ca base b L xs sa M) (hk : mm_ct M (pc, .lookupswitch d ps, len, (s0, s1), inf, cs) = true) (rl : mm_rl s D ca base b L xs sa M ad0 μ0 lo st μ ad H ls locs cells slots) (h : mm_t S mm_br mm_bk (.inr (pc, .lookupswitch d ps, len, (s0, s1), inf, cs)) lo st μ = some (.inr (kz, lo', st', μ'))) (kk : mm_rl s D ca base b L xs sa M ad0 μ0 lo' st' μ' ad H ls locs cells slots → W p l e R s m args below meth c H locs cells slots Q (F0 m (mm_npc0 (PP M kz)) ls (st'.map (mm_tr ad)))) : W p l e R s m args below meth c H locs cells slots Q (F0 m pc ls (st.map (mm_tr ad))) := by
  obtain ⟨hx, hb, hml, hown, hts, hK, hnm, hbs, hX, hbb, hnw, hsx, hlk⟩ := id C
  simp only [mm_ct, Bool.and_eq_true, decide_eq_true_eq, beq_iff_eq] at hk
  obtain ⟨⟨⟨hd, ht⟩, hs⟩, hall⟩ := hk
  simp only [mm_t] at h
  split at h
  · rename_i x r
    obtain ⟨k, off, g1, g2, g3⟩ := mm_al_in (K := fun k => mm_bk k lo r μ) (x := x) ht hall
    rw [g1] at h
    cases h
    exact lv_lookup hx hb hd hs g2 g3 (kk (mm_rl_tail rl))
  · cases h

end SIT
