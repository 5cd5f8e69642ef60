section SIM
variable {p : Program} {l : Launch} {e : Env} {R : Room} {s : State} {m : MethodId} {args : Array Value} {below : List Frame} {meth : Method} {c : Code} {Q : State → Prop}
variable {D : va_G} {ca : Nat → ClassId} {base b L : Nat} {xs : Nat → Int32} {sa : Nat → Nat} {M : Nat} {ad0 : Nat → Nat → Nat} {μ0 : mm_M}
variable {lo lo' : mm_L} {st st' : List mm_V} {μ μ' : mm_M} {ad : Nat → Nat → Nat} {H : Heap} {ls : Array Slot} {locs : List Loc} {cells slots : Nat}
variable {pc len : Nat} {inf : Nat × Nat × Nat} {cst : Int32}

theorem mm_rl_new {al : List (Nat × Nat)} {H1 : Heap} {q k ln sl : Nat} (rl : mm_rl s D ca base b L xs sa M ad0 μ0 lo st μ ad H ls locs cells slots) (hkk : mm_kok k = true) (hal : ∀ k i, (k, i) ∈ al ↔ i < μ.1.1 k) (hok : ∀ q ∈ al, mm_kok q.1 = true) (hc : μ.1.2.2.2.1 < 233) (hr0 : mm_hr μ) (hz0 : mm_hz μ) (h9 : ad 199 0 = b) (h13 : ∀ i, i < 8 → ad 13 i = sa i) (hxs : ∀ j, j < L → μ.2 199 0 j = xs j) (hL : (μ.2 199 1 0).toInt = L)
    (hP : va_P D mm_cl (mm_ws (mm_ca ca) ad μ al ++ [(q, mm_ent (mm_ca ca) (mm_adn ad k (μ.1.1 k) q) (mm_newk μ k ln sl) k (μ.1.1 k))]) H1) (hD : va_D (fun q => base ≤ q) (mm_ws (mm_ca ca) ad μ al ++ [(q, mm_ent (mm_ca ca) (mm_adn ad k (μ.1.1 k) q) (mm_newk μ k ln sl) k (μ.1.1 k))])) (hS : va_S (fun q => base ≤ q) s.heap H1 locs) :
    mm_rl s D ca base b L xs sa M ad0 μ0 lo (.inr (k, μ.1.1 k) :: st) (mm_newk μ k ln sl) (mm_adn ad k (μ.1.1 k) q) H1 ls locs (cells + 1) (slots + sl) ∧ (Sum.inr (k, μ.1.1 k) :: st).map (mm_tr (mm_adn ad k (μ.1.1 k) q)) = .ref q :: st.map (mm_tr ad) := by
  obtain ⟨hr, hz⟩ := hz0 hc
  have k199 : k ≠ 199 := fun h => by rw [h] at hkk; cases hkk
  have k13 : k ≠ 13 := fun h => by rw [h] at hkk; cases hkk
  have hn : ∀ k', (mm_newk μ k ln sl).1.1 k' = if k' = k then μ.1.1 k + 1 else μ.1.1 k' := fun _ => rfl
  have hmono : ∀ k', μ.1.1 k' ≤ (mm_newk μ k ln sl).1.1 k' := fun k' => by
    rw [hn]
    by_cases h : k' = k
    · rw [if_pos h, h]; omega
    · rw [if_neg h]; exact Nat.le_refl _
  have ho : ∀ k' i', i' < μ.1.1 k' → mm_adn ad k (μ.1.1 k) q k' i' = ad k' i' := fun k' i' h => mm_adn_old (fun z => by rw [z.1, z.2] at h; omega)
  have h9' : mm_adn ad k (μ.1.1 k) q 199 0 = ad 199 0 := mm_adn_old (fun z => k199 z.1.symm)
  have h13' : ∀ i, i < 8 → mm_adn ad k (μ.1.1 k) q 13 i = ad 13 i := fun i _ => mm_adn_old (fun z => k13 z.1.symm)
  rw [← mm_ws_new hal hr] at hP hD
  refine ⟨⟨⟨al ++ [(k, μ.1.1 k)], fun k' i' => ?_, fun x hx => ?_, hP, hD, fun k' i' j z _ _ hzz => Nat.lt_of_lt_of_le (hr k' i' j z hzz) (hmono _), fun _ => ⟨fun k' i' j z hzz => Nat.lt_of_lt_of_le (hr k' i' j z hzz) (hmono _), fun k' i' j h1 h2 => hz k' i' j (Nat.le_trans (hmono _) h1) h2⟩, h9'.trans h9, fun i hi => (h13' i hi).trans (h13 i hi), hxs, hL⟩, fun v hv => ?_, fun i v hv => mm_vd_mono hmono (rl.2.2.1 i v hv), ?_, hS, ?_, ?_, fun k' i' h => ?_, fun k' => Nat.le_trans (rl.2.2.2.2.2.2.2.2 k') (hmono k')⟩, ?_⟩
  · rw [hn, List.mem_append, List.mem_singleton, hal]
    by_cases h : k' = k
    · subst h
      rw [if_pos rfl]
      constructor
      · rintro (h | h)
        · omega
        · cases h; omega
      · intro h
        rcases Nat.lt_succ_iff_lt_or_eq.mp h with h | h
        · exact Or.inl h
        · exact Or.inr (by rw [h])
    · rw [if_neg h]
      constructor
      · rintro (h1 | h1)
        · exact h1
        · cases h1; exact absurd rfl h
      · exact Or.inl
  · rcases List.mem_append.mp hx with h | h
    · exact hok x h
    · rw [List.mem_singleton.mp h]; exact hkk
  · rcases List.mem_cons.mp hv with h | h
    · rw [h]
      left
      show μ.1.1 k < (mm_newk μ k ln sl).1.1 k
      rw [hn, if_pos rfl]
      exact Nat.lt_succ_self _
    · exact mm_vd_mono hmono (rl.2.1 v h)
  · rw [mm_as_ext ho h9' h13' rl.2.2.1]
    exact rl.2.2.2.1
  · have h := rl.2.2.2.2.2.1
    show _ = μ.1.2.2.2.1 + 1
    omega
  · have h := rl.2.2.2.2.2.2.1
    show _ = μ.1.2.2.2.2 + sl
    omega
  · rw [ho k' i' (Nat.lt_of_lt_of_le h (rl.2.2.2.2.2.2.2.2 k'))]
    exact rl.2.2.2.2.2.2.2.1 k' i' h
  · rw [List.map_cons, mm_map_ext ho h9' h13' rl.2.1]
    show Value.ref (mm_adn ad k (μ.1.1 k) q k (μ.1.1 k)) :: _ = _
    rw [mm_adn_new]
theorem mm_dflt {k j : Nat} (hk : k < 13) (hj : j < mm_nf k) : defaultValue (mm_ty k j) = if mm_ftj k j = 0 then .int 0 else .null := by
  have h : ((List.range 13).all fun k => (List.range (mm_nf k)).all fun j => (match mm_ty k j with | .int => Nat.beq (mm_ftj k j) 0 | .boolean => Nat.beq (mm_ftj k j) 0 | .object _ => !(Nat.beq (mm_ftj k j) 0) | .array _ => !(Nat.beq (mm_ftj k j) 0) | _ => false)) = true := by decide +kernel
  have h1 := mm_all (mm_all h (List.mem_range.mpr hk)) (List.mem_range.mpr hj)
  cases hty : mm_ty k j <;> rw [hty] at h1 <;> first
    | (rw [if_pos (mm_beq h1)]; rfl)
    | (have hne : ¬ mm_ftj k j = 0 := fun z => by rw [z] at h1; cases h1
       rw [if_neg hne]; rfl)
    | cases h1
theorem mm_wi {k : Nat} (hk : k < 14) : Cond.initialized (mm_cs k) ∈ mm_big := mm_big_of (mm_mem_tab (mm_all wx_i_ok (List.mem_range.mpr hk))) rfl
theorem mm_wb {k : Nat} (hk : k < 13) : Cond.instantiable (mm_cs k) (mm_nf k) ∈ mm_big := mm_big_of (mm_mem_tab (mm_all wx_b_ok (List.mem_range.mpr hk))) rfl
theorem mm_wa1 : Cond.arrayClass .int ∈ mm_big := mm_big_of (mm_mem_tab (n := 61) (by decide +kernel)) rfl
theorem mm_wa2 : Cond.arrayClass .boolean ∈ mm_big := mm_big_of (mm_mem_tab (n := 285) (by decide +kernel)) rfl
theorem mm_wa3 : Cond.arrayClass .char ∈ mm_big := mm_big_of (mm_mem_tab (n := 1325) (by decide +kernel)) rfl

theorem sim_new {idx : Nat} (C : mm_cx p s m args meth c D ca base b L xs sa M) (hk : mm_ce M (pc, .new idx, len, inf, cst) = true) (rl : mm_rl s D ca base b L xs sa M ad0 μ0 lo st μ ad H ls locs cells slots) (h : mm_s (pc, .new idx, len, inf, cst) mm_fin lo st μ = some (lo', st', μ')) (hRc : μ'.1.2.2.2.1 ≤ μ0.1.2.2.2.1 + R.cells) (hRs : μ'.1.2.2.2.2 ≤ μ0.1.2.2.2.2 + R.slots) (hfr : 1 ≤ R.frames) (hlo : 60 ≤ R.locals) (kk : ∀ (ad' : Nat → Nat → Nat) (H' : Heap) (ls' : Array Slot) (locs' : List Loc) (cells' slots' : Nat), mm_rl s D ca base b L xs sa M ad0 μ0 lo' st' μ' ad' H' ls' locs' cells' slots' → W p l e R s m args below meth c H' locs' cells' slots' Q (F0 m (pc + len) ls' (st'.map (mm_tr ad')))) : W p l e R s m args below meth c H locs cells slots Q (F0 m pc ls (st.map (mm_tr ad))) := by
  obtain ⟨hx, hb, hml, hown, hts, hK, hnm, hbs, hX, hbb, hnw, hsx, hlk⟩ := id C
  simp only [mm_ce, Bool.and_eq_true, decide_eq_true_eq, beq_iff_eq] at hk
  obtain ⟨hd, ⟨⟨rfl, h13⟩, hnf⟩, hlk2⟩ := hk
  simp only [mm_s] at h
  split at h
  case isFalse => cases h
  rename_i h233
  cases h
  obtain ⟨al, hal, hok, hP, hD, hr0, hz0, h9, h13s, hxs, hL⟩ := rl.1
  obtain ⟨hr, hz⟩ := hz0 h233
  have hc := rl.2.2.2.2.2.1
  have hs := rl.2.2.2.2.2.2.1
  have c1 : (mm_newk μ inf.1 0 inf.2.1).1.2.2.2.1 = μ.1.2.2.2.1 + 1 := rfl
  have c2 : (mm_newk μ inf.1 0 inf.2.1).1.2.2.2.2 = μ.1.2.2.2.2 + inf.2.1 := rfl
  refine va_new hx hb hts (mm_cl_ws h13) (mm_ty inf.1) (mm_cl_ty h13) hown (hts _ (mm_hask_ok hlk2)) (hts _ (mm_wb h13)) (hts _ (mm_wi (by omega))) hK hP hD rl.2.2.2.2.1 (fun q hq => Nat.le_trans hbs hq) (mm_cl_at h13) (fs := mm_fs ad μ inf.1 (μ.1.1 inf.1)) (fun j hj => ?_) (by omega) (by omega) hd (fun q H1 hP1 hD1 hS1 => ?_)
  · rw [mm_dflt h13 hj]
    unfold vp_V
    rw [List.getD_eq_getElem?_getD, mm_fs_at hj]
    show _ = mm_fv ad μ inf.1 (μ.1.1 inf.1) j
    have hz2 := hz inf.1 (μ.1.1 inf.1) j (Nat.le_refl _) (by omega)
    unfold mm_fv
    cases hft : mm_ftj inf.1 j with
    | zero => rw [if_pos rfl]; dsimp only; rw [hz2.1]
    | succ t => rw [if_neg (by omega)]; dsimp only; rw [hz2.2]; rfl
  · have e : mm_ent (mm_ca ca) (mm_adn ad inf.1 (μ.1.1 inf.1) q) (mm_newk μ inf.1 0 inf.2.1) inf.1 (μ.1.1 inf.1) = .inr (inf.1, mm_fs ad μ inf.1 (μ.1.1 inf.1)) := by
      rw [mm_ent_obj (by omega)]
      congr 2
      unfold mm_fs
      refine List.map_congr_left fun j _ => ?_
      have hz2 := hz inf.1 (μ.1.1 inf.1) j (Nat.le_refl _) (by omega)
      unfold mm_fv
      cases mm_ftj inf.1 j with
      | zero => rfl
      | succ t => show va_rf (mm_rr _ t (μ.1.2.2.1 inf.1 (μ.1.1 inf.1) j)) = va_rf (mm_rr _ t (μ.1.2.2.1 inf.1 (μ.1.1 inf.1) j)); rw [hz2.2]; rfl
    rw [← e] at hP1 hD1
    obtain ⟨rl2, e2⟩ := mm_rl_new rl (by unfold mm_kok; simp [h13]) hal hok h233 hr0 hz0 h9 h13s hxs hL hP1 hD1 hS1
    have := kk _ _ _ _ _ _ rl2
    rw [e2, hnf] at this
    exact this

theorem mm_newI {atype : ArrayType} {ty : FieldType} {t0 k : Nat} {x : Int32} {r : List mm_V} (hty : newarray.typeOf atype = ty) (hdf : defaultValue ty = .int 0) (hcb : componentBytes ty ≤ 8) (hra : ∀ cA, va_RA s cA ty → s.vm.findClass ("[" ++ ty.toString) = some cA) (C : mm_cx p s m args meth c D ca base b L xs sa M) (hd : decode (mm_mc M) pc = .ok (.newarray atype, 2)) (hw : Cond.arrayClass ty ∈ mm_big) (ht : (mm_tys ca)[t0]? = some (mm_ca ca k, ty)) (hk1 : 20 ≤ k) (hk2 : k < 300) (hkk : mm_kok k = true) (rl : mm_rl s D ca base b L xs sa M ad0 μ0 lo (.inl x :: r) μ ad H ls locs cells slots) (hin : 0 ≤ x.toInt ∧ x.toInt < 100000) (h233 : μ.1.2.2.2.1 < 233) (hRc : cells + 1 ≤ R.cells) (hRs : slots + x.toInt.toNat ≤ R.slots)
    (kk : ∀ (ad' : Nat → Nat → Nat) (H' : Heap) (ls' : Array Slot) (locs' : List Loc) (cells' slots' : Nat), mm_rl s D ca base b L xs sa M ad0 μ0 lo (.inr (k, μ.1.1 k) :: r) (mm_newk μ k x.toInt.toNat x.toInt.toNat) ad' H' ls' locs' cells' slots' → W p l e R s m args below meth c H' locs' cells' slots' Q (F0 m (pc + 2) ls' ((Sum.inr (k, μ.1.1 k) :: r).map (mm_tr ad')))) : W p l e R s m args below meth c H locs cells slots Q (F0 m pc ls ((Sum.inl x :: r).map (mm_tr ad))) := by
  obtain ⟨hx, hb, hml, hown, hts, hK, hnm, hbs, hX, hbb, hnw, hsx, hlk⟩ := id C
  obtain ⟨al, hal, hok, hP, hD, hr0, hz0, h9, h13s, hxs, hL⟩ := rl.1
  obtain ⟨hr, hz⟩ := hz0 h233
  have hneg : ¬ x < 0 := fun z => by
    have := Int32.lt_iff_toInt_lt.mp z
    simp at this
    omega
  have k199 : k ≠ 199 := fun h => by rw [h] at hkk; cases hkk
  refine va_newa hx hb (by rw [hty]; exact hts _ hw) hty hK hP hD rl.2.2.2.2.1 (fun q hq => Nat.le_trans hbs hq) (N' := x.toInt.toNat) (a0 := (x.toInt.toNat, .inl (fun _ => 0))) (fun cA => by rw [hdf]; rfl) hneg rfl ?_ hRc hRs hd (fun q cA H1 hK1 hP1 hD1 hS1 => ?_)
  · have h1 : x.toInt.toNat * componentBytes ty ≤ 100000 * 8 := Nat.mul_le_mul (by omega) hcb
    omega
  · have ec : cA = mm_ca ca k := by
      have a1 := hra _ (hK1.2 (mm_tys ca).length (cA, ty) (by simp)).2
      have a2 := hra _ (hK.2 t0 _ ht).2
      rw [a1] at a2
      exact Option.some.inj a2
    subst ec
    have e : mm_ent (mm_ca ca) (mm_adn ad k (μ.1.1 k) q) (mm_newk μ k x.toInt.toNat x.toInt.toNat) k (μ.1.1 k) = .inl (mm_ca ca k, x.toInt.toNat, .inl (fun _ => 0)) := by
      rw [mm_ent_int hk1 hk2]
      have e1 : (mm_newk μ k x.toInt.toNat x.toInt.toNat).1.2.1 k (μ.1.1 k) = x.toInt.toNat := if_pos ⟨rfl, rfl⟩
      have e2 : (mm_newk μ k x.toInt.toNat x.toInt.toNat).2 k (μ.1.1 k) = fun _ => 0 := funext fun j => (hz k (μ.1.1 k) j (Nat.le_refl _) k199).1
      rw [e1, e2]
    rw [← e] at hP1 hD1
    obtain ⟨rl2, e2⟩ := mm_rl_new (mm_rl_tail rl) hkk hal hok h233 hr0 hz0 h9 h13s hxs hL hP1 hD1 hS1
    have := kk _ _ _ _ _ _ rl2
    rw [e2] at this
    exact this

theorem sim_newarray {t : ArrayType} (C : mm_cx p s m args meth c D ca base b L xs sa M) (hk : mm_ce M (pc, .newarray t, len, inf, cst) = true) (rl : mm_rl s D ca base b L xs sa M ad0 μ0 lo st μ ad H ls locs cells slots) (h : mm_s (pc, .newarray t, len, inf, cst) mm_fin lo st μ = some (lo', st', μ')) (hRc : μ'.1.2.2.2.1 ≤ μ0.1.2.2.2.1 + R.cells) (hRs : μ'.1.2.2.2.2 ≤ μ0.1.2.2.2.2 + R.slots) (hfr : 1 ≤ R.frames) (hlo : 60 ≤ R.locals) (kk : ∀ (ad' : Nat → Nat → Nat) (H' : Heap) (ls' : Array Slot) (locs' : List Loc) (cells' slots' : Nat), mm_rl s D ca base b L xs sa M ad0 μ0 lo' st' μ' ad' H' ls' locs' cells' slots' → W p l e R s m args below meth c H' locs' cells' slots' Q (F0 m (pc + len) ls' (st'.map (mm_tr ad')))) : W p l e R s m args below meth c H locs cells slots Q (F0 m pc ls (st.map (mm_tr ad))) := by
  obtain ⟨hx, hb, hml, hown, hts, hK, hnm, hbs, hX, hbb, hnw, hsx, hlk⟩ := id C
  simp only [mm_ce, Bool.and_eq_true, decide_eq_true_eq, beq_iff_eq] at hk
  obtain ⟨hd, rfl, ht⟩ := hk
  simp only [mm_s] at h
  split at h
  · rename_i x r
    split at h
    · rename_i hin
      cases h
      obtain ⟨al, hal, hok, hP, hD, hr0, hz0, h9, h13s, hxs, hL⟩ := rl.1
      obtain ⟨hin, h233⟩ := hin
      obtain ⟨hr, hz⟩ := hz0 h233
      have hc := rl.2.2.2.2.2.1
      have hs := rl.2.2.2.2.2.2.1
      have c1 : (mm_newk μ inf.1 x.toInt.toNat x.toInt.toNat).1.2.2.2.1 = μ.1.2.2.2.1 + 1 := rfl
      have c2 : (mm_newk μ inf.1 x.toInt.toNat x.toInt.toNat).1.2.2.2.2 = μ.1.2.2.2.2 + x.toInt.toNat := rfl
      have hneg : ¬ x < 0 := fun z => by
        have := Int32.lt_iff_toInt_lt.mp z
        simp at this
        omega
      cases t <;> first
        | (simp only [Bool.and_eq_true, decide_eq_true_eq] at ht
           exact mm_newI (ty := .int) (t0 := 0) (k := inf.1) rfl rfl (by decide) (fun _ h => h) C hd mm_wa1 (mm_ca_int (by omega)) ht.1 (by omega) (by unfold mm_kok; simp; omega) rl hin h233 (by omega) (by omega) kk)
        | (simp only [Bool.and_eq_true, decide_eq_true_eq] at ht
           exact mm_newI (ty := .boolean) (t0 := 1) (k := inf.1) rfl rfl (by decide) (fun _ h => h) C hd mm_wa2 (mm_ca_bool ht.1 ht.2) (by omega) (by omega) (by unfold mm_kok; simp; omega) rl hin h233 (by omega) (by omega) kk)
        | (simp only [Bool.and_eq_true, decide_eq_true_eq] at ht
           exact mm_newI (ty := .char) (t0 := 2) (k := inf.1) rfl rfl (by decide) (fun _ h => h) C hd mm_wa3 (mm_ca_char ht.1 ht.2) (by omega) (by omega) (by unfold mm_kok; simp; omega) rl hin h233 (by omega) (by omega) kk)
        | cases ht
    · cases h
  · cases h

theorem sim_anewarray {idx : Nat} (C : mm_cx p s m args meth c D ca base b L xs sa M) (hk : mm_ce M (pc, .anewarray idx, len, inf, cst) = true) (rl : mm_rl s D ca base b L xs sa M ad0 μ0 lo st μ ad H ls locs cells slots) (h : mm_s (pc, .anewarray idx, len, inf, cst) mm_fin lo st μ = some (lo', st', μ')) (hRc : μ'.1.2.2.2.1 ≤ μ0.1.2.2.2.1 + R.cells) (hRs : μ'.1.2.2.2.2 ≤ μ0.1.2.2.2.2 + R.slots) (hfr : 1 ≤ R.frames) (hlo : 60 ≤ R.locals) (kk : ∀ (ad' : Nat → Nat → Nat) (H' : Heap) (ls' : Array Slot) (locs' : List Loc) (cells' slots' : Nat), mm_rl s D ca base b L xs sa M ad0 μ0 lo' st' μ' ad' H' ls' locs' cells' slots' → W p l e R s m args below meth c H' locs' cells' slots' Q (F0 m (pc + len) ls' (st'.map (mm_tr ad')))) : W p l e R s m args below meth c H locs cells slots Q (F0 m pc ls (st.map (mm_tr ad))) := by
  obtain ⟨hx, hb, hml, hown, hts, hK, hnm, hbs, hX, hbb, hnw, hsx, hlk⟩ := id C
  simp only [mm_ce, Bool.and_eq_true, decide_eq_true_eq, beq_iff_eq] at hk
  obtain ⟨hd, ⟨⟨rfl, hk1⟩, hk2⟩, hlk2⟩ := hk
  simp only [mm_s] at h
  split at h
  · rename_i x r
    split at h
    · rename_i hin
      cases h
      obtain ⟨al, hal, hok, hP, hD, hr0, hz0, h9, h13s, hxs, hL⟩ := rl.1
      obtain ⟨hin, h233⟩ := hin
      obtain ⟨hr, hz⟩ := hz0 h233
      have hc := rl.2.2.2.2.2.1
      have hs := rl.2.2.2.2.2.2.1
      have c1 : (mm_newk μ inf.1 x.toInt.toNat x.toInt.toNat).1.2.2.2.1 = μ.1.2.2.2.1 + 1 := rfl
      have c2 : (mm_newk μ inf.1 x.toInt.toNat x.toInt.toNat).1.2.2.2.2 = μ.1.2.2.2.2 + x.toInt.toNat := rfl
      have hneg : ¬ x < 0 := fun z => by
        have := Int32.lt_iff_toInt_lt.mp z
        simp at this
        omega
      have hao : va_AO (mm_cs (mm_ek inf.1)) s := by
        obtain ⟨-, a1, a2, a3, a4⟩ := hnw
        rcases (show inf.1 = 300 ∨ inf.1 = 301 ∨ inf.1 = 302 ∨ inf.1 = 303 by omega) with h | h | h | h <;> rw [h]
        · exact a1
        · exact a2
        · exact a3
        · exact a4
      refine va_newq hx hb hown (hts _ (mm_hask_ok hlk2)) hao hK hP hD rl.2.2.2.2.1 (fun q hq => Nat.le_trans hbs hq) (N' := x.toInt.toNat) hneg rfl (by omega) (by omega) (by omega) hd (fun q cA H1 hK1 hP1 hD1 hS1 => ?_)
      have ec : cA = mm_ca ca inf.1 := by
        obtain ⟨_, _, _, _, _, a1⟩ := (hK1.2 (mm_tys ca).length (cA, .object (mm_cs (mm_ek inf.1))) (by simp)).2
        obtain ⟨_, _, _, _, _, a2⟩ := (hK.2 (inf.1 - 297) _ (mm_ca_ref hk1 hk2)).2
        rw [a1] at a2
        exact Option.some.inj a2
      subst ec
      have e : mm_ent (mm_ca ca) (mm_adn ad inf.1 (μ.1.1 inf.1) q) (mm_newk μ inf.1 x.toInt.toNat x.toInt.toNat) inf.1 (μ.1.1 inf.1) = .inl (mm_ca ca inf.1, x.toInt.toNat, .inr (.inr (.inr (.inr (fun _ => none))))) := by
        rw [mm_ent_ref hk1]
        have e1 : (mm_newk μ inf.1 x.toInt.toNat x.toInt.toNat).1.2.1 inf.1 (μ.1.1 inf.1) = x.toInt.toNat := if_pos ⟨rfl, rfl⟩
        have e2 : (fun j => mm_rr (mm_adn ad inf.1 (μ.1.1 inf.1) q) (mm_ek inf.1) ((mm_newk μ inf.1 x.toInt.toNat x.toInt.toNat).1.2.2.1 inf.1 (μ.1.1 inf.1) j)) = fun _ => none := funext fun j => by
          show mm_rr _ _ (μ.1.2.2.1 inf.1 (μ.1.1 inf.1) j) = none
          rw [(hz inf.1 (μ.1.1 inf.1) j (Nat.le_refl _) (by omega)).2]
          rfl
        rw [e1, e2]
      rw [← e] at hP1 hD1
      obtain ⟨rl2, e2⟩ := mm_rl_new (mm_rl_tail rl) (by unfold mm_kok; simp; omega) hal hok h233 hr0 hz0 h9 h13s hxs hL hP1 hD1 hS1
      have := kk _ _ _ _ _ _ rl2
      rw [e2] at this
      exact this
    · cases h
  · cases h

theorem mm_wo1 : Cond.instanceMethod Lib.objectInit ∈ mm_big := mm_big_of (mm_mem_tab (n := 27) (by decide +kernel)) rfl
set_option maxRecDepth 20000 in
theorem mm_wo2 : Cond.code Lib.objectInit ⟨#[0xb1]⟩ 1 none ∈ mm_big := mm_big_of (mm_mem_tab (n := 28) (by decide +kernel)) rfl
theorem mm_ws1 : Cond.static Lib.Math.max.name ∈ mm_big := mm_big_of (mm_mem_tab (n := 561) (by decide +kernel)) rfl
theorem mm_ws2 : Cond.static Lib.Math.min.name ∈ mm_big := mm_big_of (mm_mem_tab (n := 636) (by decide +kernel)) rfl
theorem mm_ws3 : Cond.static arraycopyName ∈ mm_big := mm_big_of (mm_mem_tab (n := 672) (by decide +kernel)) rfl
theorem mm_ws4 : Cond.native arraycopyName ∈ mm_big := mm_big_of (mm_mem_tab (n := 673) (by decide +kernel)) rfl
theorem mm_ws5 : Cond.initialized "java/lang/Math" ∈ mm_big := mm_big_of (mm_mem_tab (n := 14) (by decide +kernel)) rfl
theorem mm_ws6 : Cond.initialized "java/lang/System" ∈ mm_big := mm_big_of (mm_mem_tab (n := 15) (by decide +kernel)) rfl
theorem mm_ws7 : Cond.code Lib.Math.max.name Lib.Math.max.code 2 (some .int) ∈ mm_big := mm_big_of (mm_mem_tab (n := 562) (by decide +kernel)) rfl
theorem mm_ws8 : Cond.code Lib.Math.min.name Lib.Math.min.code 2 (some .int) ∈ mm_big := mm_big_of (mm_mem_tab (n := 637) (by decide +kernel)) rfl
theorem mm_cats (ad : Nat → Nat → Nat) : ∀ (r : List mm_V), ((r.map (mm_tr ad)).map fun v => v.category).sum = r.length
  | [] => rfl
  | v :: r => by
    have h := mm_cats ad r
    simp only [List.map_cons, List.sum_cons, List.length_cons, mm_cat]
    omega
theorem mm_haso_ok {ow idx : Nat} (h : (wx_o.any fun q => q.1 == ow && q.2.1 == idx) = true) : Cond.methodLink (mm_cs ow) idx Lib.objectInit ∈ mm_big := by
  obtain ⟨q, hq, h1⟩ := List.any_eq_true.mp h
  simp only [Bool.and_eq_true, beq_iff_eq] at h1
  obtain ⟨e1, e2⟩ := h1
  subst e1; subst e2
  exact mm_big_of (mm_mem_tab (mm_all wx_o_ok hq)) rfl

theorem sim_objinit {idx : Nat} (C : mm_cx p s m args meth c D ca base b L xs sa M) (hk : mm_ce M (pc, .invokespecial idx, len, inf, cst) = true) (rl : mm_rl s D ca base b L xs sa M ad0 μ0 lo st μ ad H ls locs cells slots) (h : mm_s (pc, .invokespecial idx, len, inf, cst) mm_fin lo st μ = some (lo', st', μ')) (hRc : μ'.1.2.2.2.1 ≤ μ0.1.2.2.2.1 + R.cells) (hRs : μ'.1.2.2.2.2 ≤ μ0.1.2.2.2.2 + R.slots) (hfr : 1 ≤ R.frames) (hlo : 60 ≤ R.locals) (kk : ∀ (ad' : Nat → Nat → Nat) (H' : Heap) (ls' : Array Slot) (locs' : List Loc) (cells' slots' : Nat), mm_rl s D ca base b L xs sa M ad0 μ0 lo' st' μ' ad' H' ls' locs' cells' slots' → W p l e R s m args below meth c H' locs' cells' slots' Q (F0 m (pc + len) ls' (st'.map (mm_tr ad')))) : W p l e R s m args below meth c H locs cells slots Q (F0 m pc ls (st.map (mm_tr ad))) := by
  obtain ⟨hx, hb, hml, hown, hts, hK, hnm, hbs, hX, hbb, hnw, hsx, hlk⟩ := id C
  simp only [mm_ce, Bool.and_eq_true, decide_eq_true_eq, beq_iff_eq] at hk
  obtain ⟨hd, rfl, hw⟩ := hk
  simp only [mm_s] at h
  split at h
  · rename_i q r
    cases hrl : Nat.ble r.length 8 with
    | false => rw [hrl] at h; cases h
    | true =>
    rw [hrl] at h
    cases h
    have hr8 := Nat.le_of_ble_eq_true hrl
    refine W.objInit hx hb hown (hts _ (mm_haso_ok hw)) (hts _ mm_wo1) (hts _ mm_wo2) (g := F0 m pc ls ((Sum.inr q :: st').map (mm_tr ad))) rfl (rl.2.2.2.1.1.trans hml.symm) (a := ad q.1 q.2) (rest := st'.map (mm_tr ad)) rfl hd hfr ?_ (kk ad H ls locs cells slots (mm_rl_tail rl))
    have e : 2 * (F0 m pc ls ((Sum.inr q :: st').map (mm_tr ad))).monitorRoom = 0 := rfl
    rw [mm_cats, e]
    omega
  · cases h

theorem sim_statics {idx : Nat} (C : mm_cx p s m args meth c D ca base b L xs sa M) (hk : mm_ce M (pc, .invokestatic idx, len, inf, cst) = true) (rl : mm_rl s D ca base b L xs sa M ad0 μ0 lo st μ ad H ls locs cells slots) (h : mm_s (pc, .invokestatic idx, len, inf, cst) mm_fin lo st μ = some (lo', st', μ')) (hRc : μ'.1.2.2.2.1 ≤ μ0.1.2.2.2.1 + R.cells) (hRs : μ'.1.2.2.2.2 ≤ μ0.1.2.2.2.2 + R.slots) (hfr : 1 ≤ R.frames) (hlo : 60 ≤ R.locals) (kk : ∀ (ad' : Nat → Nat → Nat) (H' : Heap) (ls' : Array Slot) (locs' : List Loc) (cells' slots' : Nat), mm_rl s D ca base b L xs sa M ad0 μ0 lo' st' μ' ad' H' ls' locs' cells' slots' → W p l e R s m args below meth c H' locs' cells' slots' Q (F0 m (pc + len) ls' (st'.map (mm_tr ad')))) : W p l e R s m args below meth c H locs cells slots Q (F0 m pc ls (st.map (mm_tr ad))) := by
  obtain ⟨hx, hb, hml, hown, hts, hK, hnm, hbs, hX, hbb, hnw, hsx, hlk⟩ := id C
  simp only [mm_ce, Bool.and_eq_true, decide_eq_true_eq, beq_iff_eq] at hk
  obtain ⟨hd, ⟨rfl, h3⟩, hw⟩ := hk
  have hlk2 := hts _ (mm_hass_ok hw)
  simp only [mm_s] at h
  have hcc := rl.2.2.2.2.2.1
  have hss := rl.2.2.2.2.2.2.1
  split at h
  · rename_i ht
    rw [ht] at hlk2
    cases hst : Nat.ble st.length 10 with
    | false => rw [hst] at h; cases h
    | true =>
    rw [hst] at h
    have hle := Nat.le_of_ble_eq_true hst
    simp only [cond, mm_bin] at h
    split at h
    · rename_i y x r
      cases h
      have hr8 : r.length ≤ 8 := by simp only [List.length_cons] at hle; omega
      exact va_mmax hx hb (hml.trans rl.2.2.2.1.1.symm) hown hlk2 (hts _ mm_ws1) (hts _ mm_ws5) (hts _ mm_ws7) hfr (by rw [mm_cats]; omega) (by omega) (by omega) hd (kk ad H ls locs cells slots (mm_rl_push (v := .inl (if x < y then y else x)) (mm_rl_tail (mm_rl_tail rl)) trivial))
    · cases h
  · rename_i ht
    rw [ht] at hlk2
    cases hst : Nat.ble st.length 10 with
    | false => rw [hst] at h; cases h
    | true =>
    rw [hst] at h
    have hle := Nat.le_of_ble_eq_true hst
    simp only [cond, mm_bin] at h
    split at h
    · rename_i y x r
      cases h
      have hr8 : r.length ≤ 8 := by simp only [List.length_cons] at hle; omega
      have e : (if x ≤ y then x else y) = (if y < x then y else x) := by
        by_cases hxy : x ≤ y
        · rw [if_pos hxy, if_neg (Int32.not_lt.mpr hxy)]
        · rw [if_neg hxy, if_pos (Int32.not_le.mp hxy)]
      have := kk ad H ls locs cells slots (mm_rl_push (v := .inl (if x ≤ y then x else y)) (mm_rl_tail (mm_rl_tail rl)) trivial)
      rw [e] at this
      exact va_mmin hx hb (hml.trans rl.2.2.2.1.1.symm) hown hlk2 (hts _ mm_ws2) (hts _ mm_ws5) (hts _ mm_ws8) hfr (by rw [mm_cats]; omega) (by omega) (by omega) hd this
    · cases h
  · rename_i h0 h1
    have ht : inf.1 = 2 := by
      have a0 : inf.1 ≠ 0 := fun z => h0 z
      have a1 : inf.1 ≠ 1 := fun z => h1 z
      omega
    rw [ht] at hlk2
    split at h
    · rename_i n dp k2 i2 sp k i r
      cases hrg : (Nat.ble 20 k && Nat.blt k 199 && Nat.ble 20 k2 && Nat.blt k2 199 && Nat.ble r.length 8) with
      | false => rw [hrg] at h; cases h
      | true =>
      rw [hrg] at h
      simp only [Bool.and_eq_true] at hrg
      obtain ⟨⟨⟨⟨g1, g2⟩, g3⟩, g4⟩, g5⟩ := hrg
      have g1 := Nat.le_of_ble_eq_true g1
      have g2 : k < 199 := Nat.le_of_ble_eq_true g2
      have g3 := Nat.le_of_ble_eq_true g3
      have g4 : k2 < 199 := Nat.le_of_ble_eq_true g4
      have g5 := Nat.le_of_ble_eq_true g5
      dsimp only [cond] at h
      split at h
      · rename_i hin
        obtain ⟨i1, i3, i4, i5, i6⟩ := hin
        cases h
        rw [mm_ln_ne (by omega)] at i5 i6
        obtain ⟨al, hal, hok, hP, hD, hr, hz, h9, h13s, hxs, hL⟩ := rl.1
        have hi := mm_k20 g1 (by omega) (rl.2.1 (.inr (k, i)) (by simp))
        have hi2 := mm_k20 g3 (by omega) (rl.2.1 (.inr (k2, i2)) (by simp))
        obtain ⟨q0, h0', he⟩ := mm_ws_at (cA := mm_ca ca) (ad := ad) (μ := μ) ((hal k i).mpr hi)
        rw [mm_ent_int g1 (by omega)] at he
        obtain ⟨q1, h1', he1⟩ := mm_ws_at (cA := mm_ca ca) (ad := ad) (μ := μ) ((hal k2 i2).mpr hi2)
        rw [mm_ent_int g3 (by omega)] at he1
        have neg : ∀ z : Int32, 0 ≤ z.toInt → ¬ z < 0 := fun z hz w => by
          have := Int32.lt_iff_toInt_lt.mp w
          simp at this
          omega
        have cl : ∀ z : Int32, z.toNatClampNeg = z.toInt.toNat := fun _ => rfl
        refine va_copyi hx hb (hml.trans rl.2.2.2.1.1.symm) hown hlk2 (hts _ mm_ws4) (hts _ mm_ws3) (hts _ mm_ws6) hK hP hD rl.2.2.2.2.1 q0 q1 0 0 he he1 (mm_ca_int (by omega)) (mm_ca_int (by omega)) rfl (neg _ i3) (neg _ i4) (neg _ i1) (by rw [cl, cl]; omega) (by rw [cl, cl]; omega) (fun _ _ => rfl) hfr ?_ hd (fun H1 locs1 hP1 hD1 hS1 => ?_)
        · rw [mm_cats]
          have : nativeFrameWords "java/lang/System" "arraycopy" 5 ≤ 30 := by decide +kernel
          omega
        · have e2 := mm_ws_set (μ' := (μ.1, mm_cp μ.2 k i sp.toInt.toNat k2 i2 dp.toInt.toNat n.toInt.toNat)) hD h1' (fun k' i' hh => mm_ent_cp hh)
          rw [mm_ent_cpA (by omega) (by omega)] at e2
          rw [cl, cl, cl, e2] at hP1 hD1
          have rl2 := mm_rl_tail (mm_rl_tail (mm_rl_tail (mm_rl_tail (mm_rl_tail rl))))
          refine kk ad H1 ls locs1 cells slots ⟨⟨al, hal, hok, hP1, hD1, hr, fun hc => ⟨(hz hc).1, fun k' i' j' z1 z2 => ⟨?_, ((hz hc).2 k' i' j' z1 z2).2⟩⟩, h9, h13s, fun j' z1 => ?_, ?_⟩, rl2.2.1, rl2.2.2.1, rl2.2.2.2.1, hS1, rl2.2.2.2.2.2⟩
          · show mm_cp _ _ _ _ _ _ _ _ k' i' j' = 0
            unfold mm_cp
            rw [if_neg (fun z => by rw [z.1, z.2.1] at z1; exact absurd hi2 (Nat.not_lt.mpr z1))]
            exact ((hz hc).2 k' i' j' z1 z2).1
          · show mm_cp _ _ _ _ _ _ _ _ 199 0 j' = _
            unfold mm_cp
            rw [if_neg (fun z => by omega)]
            exact hxs j' z1
          · show (mm_cp _ _ _ _ _ _ _ _ 199 1 0).toInt = _
            unfold mm_cp
            rw [if_neg (fun z => by omega)]
            exact hL
      · cases h
    · cases h

end SIM
