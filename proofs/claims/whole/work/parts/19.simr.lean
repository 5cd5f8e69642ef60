/-- the printed blocks are the code's -/
def mm_Chk : Prop := ∀ M k : Nat, M < 246 → mm_cb M (PP M k).1 (PP M k).2 = true ∧ mm_npc0 (PP M k) = mm_npc M (PP M k).1 (PP M k).2 ∧ mm_npc0 (PP M 0) = 0
theorem mm_t_inl {S : Nat → List mm_V → mm_M → Option mm_R} {x : Nat × Jvm.ClassFile.Instr × Nat × (Nat × Nat) × (Nat × Nat × Nat) × List (Int32 × Nat)} {lo : mm_L} {st : List mm_V} {μ : mm_M} {r : mm_R} (h : mm_t S mm_br mm_bk (.inr x) lo st μ = some (.inl r)) : x.2.1 = .ireturn ∨ x.2.1 = .areturn ∨ x.2.1 = .return_ := by
  simp only [mm_t] at h
  split at h
  · cases h
  · exfalso
    split at h
    · split at h <;> (split at h <;> cases h)
    · cases h
  · exfalso
    split at h
    · split at h <;> (split at h <;> cases h)
    · cases h
  · exfalso
    split at h
    · rcases mm_sw_in h with ⟨_, _, _, h2⟩ | ⟨_, h2⟩ <;> cases h2
    · cases h
  · exfalso
    split at h
    · rcases mm_sw_in h with ⟨_, _, _, h2⟩ | ⟨_, h2⟩ <;> cases h2
    · cases h
  · rename_i e; exact Or.inl e
  · rename_i e; exact Or.inr (Or.inl e)
  · rename_i e; exact Or.inr (Or.inr e)
  · exfalso
    cases hc : mm_rcv x.2.2.2.2.1.2.1 x.2.2.2.2.1.2.2 st with
    | false => rw [hc] at h; cases h
    | true => rw [hc] at h; obtain ⟨-, -, q, -, hz⟩ := mm_cal_in h; cases hz
  · exfalso
    obtain ⟨-, -, q, -, hz⟩ := mm_cal_in h; cases hz
  · exfalso
    cases hc : mm_rcv x.2.2.2.2.1.2.1 x.2.2.2.2.1.2.2 st with
    | false => rw [hc] at h; cases h
    | true => rw [hc] at h; obtain ⟨-, -, q, -, hz⟩ := mm_cal_in h; cases hz
  · cases h

section SIX
variable {p : Program} {l : Launch} {e : Env} {R : Room} {s : State} {m : MethodId} {args : Array Value} {below : List Frame} {meth : Method} {c : Code} {Q : State → Prop}
variable {D : va_G} {ca : Nat → ClassId} {base b L : Nat} {xs : Nat → Int32} {sa : Nat → Nat} {M : Nat} {ad0 : Nat → Nat → Nat} {μ0 : mm_M}
variable {lo lo' : mm_L} {st st' : List mm_V} {μ μ' : mm_M} {ad : Nat → Nat → Nat} {H : Heap} {ls : Array Slot} {locs : List Loc} {cells slots : Nat}
variable {pc len : Nat} {inf : Nat × Nat × Nat} {cst : Int32}
variable {r : mm_R} {d : Nat}

set_option maxHeartbeats 2000000 in
theorem mm_runG (hZ : mm_Str) (hch : ∀ k : Nat, mm_cb M (PP M k).1 (PP M k).2 = true ∧ mm_npc0 (PP M k) = mm_npc M (PP M k).1 (PP M k).2) (IH : ∀ (M : Nat) (as : List mm_V) (μ : mm_M) (r : mm_R), M < 246 → mm_S PP NN d M as μ = some r → mm_Met l d M as μ r) (C : mm_cx p s m args meth c D ca base b L xs sa M) (hRf : d + 9 ≤ R.frames) (hRl : 100 * d + 500 ≤ R.locals) (hRc : r.2.1.2.2.2.1 ≤ μ0.1.2.2.2.1 + R.cells) (hRs : r.2.1.2.2.2.2 ≤ μ0.1.2.2.2.2 + R.slots)
    (kr : ∀ (x : Nat × Jvm.ClassFile.Instr × Nat × (Nat × Nat) × (Nat × Nat × Nat) × List (Int32 × Nat)) (lo : mm_L) (st : List mm_V) (μ : mm_M) (ad : Nat → Nat → Nat) (H : Heap) (ls : Array Slot) (locs : List Loc) (cells slots : Nat), mm_t (mm_S PP NN d) mm_br mm_bk (.inr x) lo st μ = some (.inl r) → mm_ct M x = true → mm_rl s D ca base b L xs sa M ad0 μ0 lo st μ ad H ls locs cells slots → W p l e R s m args below meth c H locs cells slots Q (F0 m x.1 ls (st.map (mm_tr ad)))) :
    ∀ (n k : Nat) (lo : mm_L) (st : List mm_V) (μ : mm_M) (ad : Nat → Nat → Nat) (H : Heap) (ls : Array Slot) (locs : List Loc) (cells slots : Nat), mm_y PP (mm_S PP NN d) M n k lo st μ = some r → mm_rl s D ca base b L xs sa M ad0 μ0 lo st μ ad H ls locs cells slots → W p l e R s m args below meth c H locs cells slots Q (F0 m (mm_npc0 (PP M k)) ls (st.map (mm_tr ad))) := by
  intro n
  induction n with
  | zero => intro k lo st μ ad H ls locs cells slots h; cases h
  | succ n ih =>
    intro k lo st μ ad H ls locs cells slots h rl
    have h1 : mm_b (mm_S PP NN d) some (mm_y PP (mm_S PP NN d) M n) ((PP M k).1, (PP M k).2) lo st μ = some r := h
    rw [mm_b_free] at h1
    cases hbz : mm_b (mm_S PP NN d) mm_br mm_bk ((PP M k).1, (PP M k).2) lo st μ with
    | none => rw [hbz] at h1; cases h1
    | some z =>
      rw [hbz] at h1
      have h1 : mm_el some (mm_y PP (mm_S PP NN d) M n) z = some r := h1
      have hzr : mm_le (mm_zm z) r.2 := by
        obtain x | ⟨a, b2, c2, d2⟩ := z
        · cases h1; exact mm_le_rf _
        · exact mm_y_le2 (mm_S_le d) h1
      have hz1 : (mm_zm z).1.2.2.2.1 ≤ μ0.1.2.2.2.1 + R.cells := Nat.le_trans hzr.1 hRc
      have hz2 : (mm_zm z).1.2.2.2.2 ≤ μ0.1.2.2.2.2 + R.slots := Nat.le_trans hzr.2 hRs
      have hf8 : 8 ≤ R.frames := Nat.le_trans (by omega) hRf
      have hl4 : 400 ≤ R.locals := Nat.le_trans (Nat.le_trans (by decide) (Nat.le_add_left 500 (100 * d))) hRl
      rw [(hch k).2]
      refine mm_simb hZ C hf8 hl4 (S := mm_S PP NN d) (mm_S_le d) hz1 hz2 ?_ (PP M k).1 lo st μ ad H ls locs cells slots hbz (hch k).1 rl
      intro lo st μ ad H ls locs cells slots ht hk rl
      generalize (PP M k).2 = t at ht hk ⊢
      obtain k' | ⟨pc, i, len, ⟨s0, s1⟩, inf, cs⟩ := t
      · cases ht
        exact ih _ _ _ _ _ _ _ _ _ _ h1 rl
      · have hk : mm_ct M (pc, i, len, (s0, s1), inf, cs) = true := hk
        show W p l e R s m args below meth c H locs cells slots Q (F0 m pc ls (st.map (mm_tr ad)))
        obtain r' | ⟨kz, lo', st', μ'⟩ := z
        · cases h1
          exact kr _ _ _ _ _ _ _ _ _ _ ht hk rl
        · have h1 : mm_y PP (mm_S PP NN d) M n kz lo' st' μ' = some r := h1
          cases i
          case goto off => exact sit_goto C hk rl ht (ih _ _ _ _ _ _ _ _ _ _ h1)
          case ifCond o off _ =>
            cases o
            case eq => exact sit_ifCond_eq C hk rl ht (ih _ _ _ _ _ _ _ _ _ _ h1)
            case ne => exact sit_ifCond_ne C hk rl ht (ih _ _ _ _ _ _ _ _ _ _ h1)
            case lt => exact sit_ifCond_lt C hk rl ht (ih _ _ _ _ _ _ _ _ _ _ h1)
            case ge => exact sit_ifCond_ge C hk rl ht (ih _ _ _ _ _ _ _ _ _ _ h1)
            case gt => exact sit_ifCond_gt C hk rl ht (ih _ _ _ _ _ _ _ _ _ _ h1)
            case le => exact sit_ifCond_le C hk rl ht (ih _ _ _ _ _ _ _ _ _ _ h1)
          case if_icmp o off _ =>
            cases o
            case eq => exact sit_if_icmp_eq C hk rl ht (ih _ _ _ _ _ _ _ _ _ _ h1)
            case ne => exact sit_if_icmp_ne C hk rl ht (ih _ _ _ _ _ _ _ _ _ _ h1)
            case lt => exact sit_if_icmp_lt C hk rl ht (ih _ _ _ _ _ _ _ _ _ _ h1)
            case ge => exact sit_if_icmp_ge C hk rl ht (ih _ _ _ _ _ _ _ _ _ _ h1)
            case gt => exact sit_if_icmp_gt C hk rl ht (ih _ _ _ _ _ _ _ _ _ _ h1)
            case le => exact sit_if_icmp_le C hk rl ht (ih _ _ _ _ _ _ _ _ _ _ h1)
          case tableswitch a b2 c2 d2 => exact sit_tableswitch C hk rl ht (ih _ _ _ _ _ _ _ _ _ _ h1)
          case lookupswitch a b2 => exact sit_lookupswitch C hk rl ht (ih _ _ _ _ _ _ _ _ _ _ h1)
          case invokevirtual idx => exact sic_virtual IH C hRf hRl hk rl ht hz1 hz2 (fun ad' H' locs' cells' slots' rl' => ih _ _ _ _ _ _ _ _ _ _ h1 rl')
          case invokestatic idx => exact sic_static IH C hRf hRl hk rl ht hz1 hz2 (fun ad' H' locs' cells' slots' rl' => ih _ _ _ _ _ _ _ _ _ _ h1 rl')
          case invokespecial idx => exact sic_special IH C hRf hRl hk rl ht hz1 hz2 (fun ad' H' locs' cells' slots' rl' => ih _ _ _ _ _ _ _ _ _ _ h1 rl')
          case ireturn => simp only [mm_t] at ht; split at ht <;> cases ht
          case areturn => simp only [mm_t] at ht; split at ht <;> cases ht
          case return_ => simp only [mm_t] at ht; split at ht <;> cases ht
          all_goals (exact absurd ht (by simp [mm_t]))

theorem mm_run (hZ : mm_Str) (hch : mm_Chk) (hM : M < 246) (IH : ∀ (M : Nat) (as : List mm_V) (μ : mm_M) (r : mm_R), M < 246 → mm_S PP NN d M as μ = some r → mm_Met l d M as μ r) (C : mm_cx p s m args meth c D ca base b L xs sa M) (hret : meth.sig.returnType = mm_mr M) (hRf : d + 9 ≤ R.frames) (hRl : 100 * d + 500 ≤ R.locals) (hRc : R.cells = r.2.1.2.2.2.1 - μ0.1.2.2.2.1) (hRs : R.slots = r.2.1.2.2.2.2 - μ0.1.2.2.2.2) (hr0 : mm_le μ0 r.2) :
    ∀ (n k : Nat) (lo : mm_L) (st : List mm_V) (μ : mm_M) (ad : Nat → Nat → Nat) (H : Heap) (ls : Array Slot) (locs : List Loc) (cells slots : Nat), mm_y PP (mm_S PP NN d) M n k lo st μ = some r → mm_rl s D ca base b L xs sa M ad0 μ0 lo st μ ad H ls locs cells slots → W p l e R s m args below meth c H locs cells slots (MQ below (mm_Qc D ca base b L xs sa ad0 μ0 r) args s (r.2.1.2.2.2.1 - μ0.1.2.2.2.1) (r.2.1.2.2.2.2 - μ0.1.2.2.2.2) (fun q => base ≤ q)) (F0 m (mm_npc0 (PP M k)) ls (st.map (mm_tr ad))) :=
  mm_runG hZ (fun k => ⟨(hch M k hM).1, (hch M k hM).2.1⟩) IH C hRf hRl (by have a2 := hr0.1; omega) (by have a2 := hr0.2; omega) (fun x lo st μ ad H ls locs cells slots ht hk rl => by
    obtain ⟨pc, i, len, ⟨s0, s1⟩, inf, cs⟩ := x
    rcases mm_t_inl ht with e | e | e
    · dsimp only at e; subst e; exact sir_ireturn C hret hk rl ht
    · dsimp only at e; subst e; exact sir_areturn C hret hk rl ht
    · dsimp only at e; subst e; exact sir_return C hret hk rl ht)

end SIX

theorem mm_nth_app {k : Nat} : ∀ {as : List mm_V} {j : Nat} {v : mm_V}, mm_nth (as.map some ++ List.replicate k none) j = some (some v) → as[j]? = some v
  | [], j, v, h => by
    exfalso
    have : ∀ (k j : Nat), mm_nth (List.replicate k (none : Option mm_V)) j ≠ some (some v) := by
      intro k
      induction k with
      | zero => intro j h; cases h
      | succ k ih => intro j h; cases j with
        | zero => cases h
        | succ j => exact ih j h
    exact this k j h
  | a :: as, 0, v, h => by cases h; rfl
  | a :: as, j + 1, v, h => mm_nth_app (as := as) h
theorem mm_args_mem {ad : Nat → Nat → Nat} : ∀ {as : List mm_V} {b j : Nat} {v : mm_V}, as[j]? = some v → (b + j, mm_tr ad v) ∈ lv_args b (as.map (mm_tr ad))
  | a :: as, b, 0, v, h => by cases h; exact List.mem_cons_self
  | a :: as, b, j + 1, v, h => by
    have h1 := mm_args_mem (ad := ad) (as := as) (b := b + 1) (j := j) (v := v) h
    rw [List.map_cons, lv_args, mm_cat, if_neg (by decide)]
    exact List.mem_cons_of_mem _ (by rw [show b + (j + 1) = b + 1 + j by omega]; exact h1)
theorem mm_sl_len {ad : Nat → Nat → Nat} : ∀ (as : List mm_V), (lg_sl (as.map (mm_tr ad))).length = as.length
  | [] => rfl
  | a :: as => by
    have h := mm_sl_len (ad := ad) as
    unfold lg_sl at h ⊢
    rw [List.map_cons, List.flatMap_cons, mm_cat, if_neg (by decide), List.length_append, h]
    simp
    omega
/-- SOUNDNESS: what the machine answers, the method answers -/
theorem mm_met (hZ : mm_Str) (hch : mm_Chk) (l : Launch) : ∀ (d M : Nat) (as : List mm_V) (μ : mm_M) (r : mm_R), M < 246 → mm_S PP NN d M as μ = some r → mm_Met l d M as μ r := by
  intro d
  induction d with
  | zero => intro M as μ r hM h; cases h
  | succ d IH =>
    intro M as μ r hM h D ca base b L xs sa ad hval hlen
    obtain ⟨n, hn⟩ := mm_l_spec (show mm_l PP (mm_S PP NN d) M 0 _ [] μ = some r from h)
    obtain ⟨w1, w2, w3⟩ := mm_wya hM
    obtain ⟨w6, w7, w8, w9⟩ := mm_wd hM
    have hle := mm_S_le _ _ _ _ _ h
    refine Met.ofW (cc := mm_mc M) (maxL := NN M) (ret := mm_mr M) (ws' := mm_big) w8 (by unfold mm_wM mm_cw; rw [w1]; rfl) ?_
    intro p e s m args below meth c s₁ B hml hv
    obtain ⟨rfl, hhp, hK, hbs, hX, hbb, hnw, hsx⟩ := hv
    have hts0 := atoms_spec (ws := mm_wM M) B.pre
    have hts : ∀ w ∈ mm_big, w.before (as.map (mm_tr ad)).toArray s = true := fun w hw => hts0 w (List.mem_cons_of_mem _ hw)
    have hown : s.vm.findClass (mm_cs (mm_mo M)) = some m.cls := by rw [← w6]; exact findClass_of_methodNamed B.named
    have C : mm_cx p s m (as.map (mm_tr ad)).toArray meth c D ca base b L xs sa M := ⟨B.exec, B.bytes, hml, hown, hts, hK, (name_of_methodNamed B.named B.method).1, hbs, hX, hbb, hnw, hsx, B.notSynchronized⟩
    have hl := lv_entry (as.map (mm_tr ad)) (n := NN M) (by rw [mm_sl_len]; exact hlen)
    rw [lg_entry_eq]
    generalize (lg_sl (as.map (mm_tr ad)) ++ List.replicate (NN M - (lg_sl (as.map (mm_tr ad))).length) Slot.unset).toArray = ls at hl ⊢
    have hl2 : lv_has ls (NN M) (mm_as ad 0 (as.map some ++ List.replicate (NN M - as.length) none)) := mm_lv_sub hl fun q hq => by
      obtain ⟨j, v, h1, h2⟩ := mm_as_mem.mp hq
      rw [h2]
      exact mm_args_mem (mm_nth_app h1)
    have rl : mm_rl s D ca base b L xs sa M ad μ (as.map some ++ List.replicate (NN M - as.length) none) [] μ ad s.heap ls [] 0 0 := ⟨hhp, fun v hv => absurd hv List.not_mem_nil, fun i v hv => hval v (List.mem_of_getElem? (mm_nth_app hv)), hl2, va_S.rf, rfl, rfl, fun _ _ _ => rfl, fun _ => Nat.le_refl _⟩
    have hK2 := mm_run (R := (headSpec (mm_wM M) (mm_rm (d + 1) (r.2.1.2.2.2.1 - μ.1.2.2.2.1) (r.2.1.2.2.2.2 - μ.1.2.2.2.2))).room) (below := below) (e := e) hZ hch hM IH C B.returns (by show d + 9 ≤ d + 1 + 8; omega) (by show 100 * d + 500 ≤ 100 * (d + 1) + 400; omega) rfl rfl hle n 0 _ [] μ ad s.heap ls [] 0 0 hn rl
    rw [(hch M 0 hM).2.2] at hK2
    exact hK2
