/-! What holds between the calls. -/
def Img (A : mm_A) (I : mm_I) : Prop := (I 11 0 3 = nI 0 ∧ I 12 0 3 = nI 0) ∨ (I 11 0 3 = nI 1 ∧ I 12 0 3 = nI 1 ∧ ∃ B, RepC 1 B I ∧ RepR 1 B I ∧ Good B ∧ B 0 0 11 ≤ 200 ∧ B 0 0 2 ≤ A 0 0 2)
def Tap (I : mm_I) : Prop := ∃ (n : Nat) (T : Nat → Nat), n ≤ 96 ∧ I 5 0 1 = nI n ∧ I 12 0 11 = nI n ∧ ∀ k, k < n → T k ≤ 255 ∧ I 29 0 k = nI (T k) ∧ I 52 0 k = nI (T k)
/-- a place of a counter -/
def plc (x : Int32) : Prop := x = -nI 1 ∨ ∃ v, v ≤ 30000 ∧ x = nI v
def Cnt (I : mm_I) : Prop := ∀ c, c < 9 → ∃ (s : Int32) (z : Nat), (s = -nI 1 ∨ s = nI 0 ∨ s = nI 1) ∧ z ≤ 24 ∧ I 1 c 0 = s ∧ I 64 0 c = s ∧ I 1 c 1 = nI z ∧ I 65 0 c = nI z ∧ ∀ k, k < 24 → plc (I 25 c k) ∧ I 66 0 (24 * c + k) = I 25 c k
def Hts (I : mm_I) : Prop := ∀ h, h < 5 → ∃ t, t ≤ 3 ∧ I 4 h 0 = nI t ∧ I 68 0 h = nI t ∧ (t = 1 → ∃ f, StC I (49 + h) f ∧ StG f ∧ I 69 0 (4 * h) = nI (f 8) ∧ I 69 0 (4 * h + 1) = nI (f 2) ∧ I 69 0 (4 * h + 2) = nI (f 3) ∧ I 69 0 (4 * h + 3) = nI (f 5)) ∧ (t = 3 → I 70 0 h = I 4 h 3)
def Num (I : mm_I) : Prop := ∃ n, n ≤ 60 ∧ I 11 0 16 = nI n ∧ I 12 0 47 = nI n ∧ ∀ k, k < n → I 71 0 k = I 46 0 k
def kyA : List Nat := [0, 5, 9, 14, 18]
def kyC : List Nat := [108, 101, 97, 118, 101, 115, 104, 117, 116, 112, 114, 105, 99, 101, 119, 97, 115, 104]
def Kst (I : mm_I) : Prop := I 12 0 8 = -nI 1 ∧ (∀ k, k < 5 → I 53 0 k = nI (mm_at 0 kyA k)) ∧ ∀ k, k < 18 → I 210 0 k = nI (mm_at 0 kyC k)
def Rst (I : mm_I) : Prop := Fix I ∧ Kst I ∧ Tap I ∧ Cnt I ∧ Hts I ∧ Num I
def Inv (I : mm_I) : Prop := Rst I ∧ ∃ A, RepC 0 A I ∧ RepR 0 A I ∧ Good A ∧ A 0 0 11 ≤ 200 ∧ Img A I
/-- cells that the class may change in a call that is about the hills alone -/
def dC (k i : Nat) : Prop := hc 0 k i ∨ hc 2 k i ∨ (k = 8 ∧ i = 48) ∨ k = 0 ∨ k = 2 ∨ k = 6 ∨ k = 10 ∨ (20 ≤ k ∧ k ≤ 24) ∨ k = 26 ∨ k = 27 ∨ (31 ≤ k ∧ k ≤ 36) ∨ (39 ≤ k ∧ k ≤ 45) ∨ k = 200
/-- and the reference -/
def dM' (k i : Nat) : Prop := (k = 47 ∧ i ≠ 1) ∨ k = 12 ∨ (48 ≤ k ∧ k ≤ 51) ∨ (54 ≤ k ∧ k ≤ 63) ∨ k = 67 ∨ k = 72 ∨ k = 201
def k12 (I I' : mm_I) : Prop := I' 12 0 3 = I 12 0 3 ∧ I' 12 0 8 = I 12 0 8 ∧ I' 12 0 11 = I 12 0 11 ∧ I' 12 0 47 = I 12 0 47
theorem k12_rf (I : mm_I) : k12 I I := ⟨rfl, rfl, rfl, rfl⟩
theorem k12_tr {I I' I'' : mm_I} (h : k12 I I') (h2 : k12 I' I'') : k12 I I'' := ⟨h2.1.trans h.1, h2.2.1.trans h.2.1, h2.2.2.1.trans h.2.2.1, h2.2.2.2.trans h.2.2.2⟩
theorem k12_of {I I' : mm_I} (h : I' 12 = I 12) : k12 I I' := by unfold k12; rw [h]; exact ⟨rfl, rfl, rfl, rfl⟩
theorem k12_ex {s : Nat} {I I' : mm_I} (h : ex12 s I I') (hs : s ≠ 3 ∧ s ≠ 8 ∧ s ≠ 11 ∧ s ≠ 47) : k12 I I' := ⟨h 3 (by omega), h 8 (by omega), h 11 (by omega), h 47 (by omega)⟩
theorem dC_hc {k i : Nat} (h : dC k i) (h1 : hc 1 k i ∨ k = 9 ∨ k = 38) : False := by unfold dC hc at *; omega
/-- the rest, by its cells -/
theorem Rst_fr {I I' : mm_I} (h : Rst I) (F : Fix I') (hk : k12 I I') (e5 : I' 5 0 1 = I 5 0 1) (e29 : I' 29 = I 29) (e52 : I' 52 = I 52) (e1 : I' 1 = I 1) (e64 : I' 64 = I 64) (e65 : I' 65 = I 65) (e66 : I' 66 = I 66) (e25 : I' 25 = I 25) (e4 : I' 4 = I 4) (e68 : I' 68 = I 68) (e69 : I' 69 = I 69) (e70 : I' 70 = I 70) (e8 : ∀ h, h < 5 → I' 8 (49 + h) = I 8 (49 + h)) (e11 : I' 11 0 16 = I 11 0 16) (e46 : I' 46 = I 46) (e71 : I' 71 = I 71) (e53 : I' 53 = I 53) (e210 : I' 210 = I 210) : Rst I' := by
  obtain ⟨-, h2, h3, h4, h5, h6⟩ := h
  refine ⟨F, ?_, ?_, ?_, ?_, ?_⟩
  · unfold Kst; rw [hk.2.1, e53, e210]; exact h2
  · unfold Tap; rw [e5, hk.2.2.1, e29, e52]; exact h3
  · unfold Cnt; rw [e1, e64, e65, e66, e25]; exact h4
  · intro h hh
    obtain ⟨t, t1, t2, t3, t4, t5⟩ := h5 h hh
    refine ⟨t, t1, by rw [e4]; exact t2, by rw [e68]; exact t3, fun q => ?_, fun q => by rw [e70, e4]; exact t5 q⟩
    obtain ⟨f, f1, f2, f3⟩ := t4 q
    exact ⟨f, StC_c f1 (e8 h hh), f2, by rw [e69]; exact f3⟩
  · unfold Num; rw [e11, hk.2.2.2, e46, e71]; exact h6
theorem frk {P : Nat → Nat → Prop} {I I' : mm_I} (h : fr P I I') {k : Nat} (hk : ∀ i, ¬ P k i) : I' k = I k := by funext i; exact h k i (hk i)
theorem Rst_C {I I' : mm_I} (h : Rst I) (f : fr dC I I') (F : Fix I') : Rst I' := by
  have e : ∀ k, (∀ i, ¬ dC k i) → I' k = I k := fun k hk => frk f hk
  refine Rst_fr h F (k12_of (e 12 ?_)) (by rw [e 5]; unfold dC hc; omega) (e 29 ?_) (e 52 ?_) (e 1 ?_) (e 64 ?_) (e 65 ?_) (e 66 ?_) (e 25 ?_) (e 4 ?_) (e 68 ?_) (e 69 ?_) (e 70 ?_) (fun h hh => f 8 _ (by unfold dC hc; omega)) (by rw [e 11]; unfold dC hc; omega) (e 46 ?_) (e 71 ?_) (e 53 ?_) (e 210 ?_) <;> (unfold dC hc; omega)
theorem Rst_M {I I' : mm_I} (h : Rst I) (f : fr dM' I I') (hk : k12 I I') : Rst I' := by
  have e : ∀ k, (∀ i, ¬ dM' k i) → I' k = I k := fun k hk => frk f hk
  refine Rst_fr h (Fix_o h.1 (fun r j _ => by rw [e 7]; unfold dM'; omega)) hk (by rw [e 5]; unfold dM'; omega) (e 29 ?_) (e 52 ?_) (e 1 ?_) (e 64 ?_) (e 65 ?_) (e 66 ?_) (e 25 ?_) (e 4 ?_) (e 68 ?_) (e 69 ?_) (e 70 ?_) (fun h hh => f 8 _ (by unfold dM'; omega)) (by rw [e 11]; unfold dM'; omega) (e 46 ?_) (e 71 ?_) (e 53 ?_) (e 210 ?_) <;> (unfold dM'; omega)
theorem Img_fr {A A' : mm_A} {I I' : mm_I} (h : Img A I) (hA : A 0 0 2 ≤ A' 0 0 2) (e11 : I' 11 0 3 = I 11 0 3) (e12 : I' 12 0 3 = I 12 0 3) (eC : ∀ k i, hc 1 k i ∨ k = 9 ∨ k = 38 → I' k i = I k i) (eR : I' 47 1 = I 47 1) : Img A' I' := by
  unfold Img
  rw [e11, e12]
  rcases h with h | ⟨h1, h2, B, h3, h4, h5, h6, h7⟩
  · exact Or.inl h
  · exact Or.inr ⟨h1, h2, B, RepC_fr h3 h5 eC, RepR_o h4 eR, h5, h6, Nat.le_trans h7 hA⟩
theorem Img_C {A A' : mm_A} {I I' : mm_I} (h : Img A I) (hA : A 0 0 2 ≤ A' 0 0 2) (f : fr dC I I') : Img A' I' := Img_fr h hA (by rw [frk f]; unfold dC hc; omega) (by rw [frk f]; unfold dC hc; omega) (fun k i q => f k i (fun z => dC_hc z q)) (f 47 1 (by unfold dC hc; omega))
theorem Img_M {A A' : mm_A} {I I' : mm_I} (h : Img A I) (hA : A 0 0 2 ≤ A' 0 0 2) (f : fr dM' I I') (hk : k12 I I') : Img A' I' := Img_fr h hA (by rw [frk f]; unfold dM'; omega) hk.1 (fun k i q => f k i (by unfold dM'; unfold hc at q; omega)) (f 47 1 (by unfold dM'; omega))
/-- a call goes the same way in both -/
def Ok (D mH mM : Nat) (as : List mm_V) : Prop := ∀ I, Inv I → ∃ r I1 I2, Sn D mH (.inr (11, 0) :: as) I = some (some (.inl r), (sh0, I1)) ∧ Sn D mM (.inr (12, 0) :: as) I1 = some (some (.inl r), (sh0, I2)) ∧ Inv I2
theorem call_hill {D mH mM : Nat} {as : List mm_V} (ans : mm_A → Int32) (nxt : mm_A → mm_A)
    (hH : ∀ A I, RepC 0 A I → Fix I → Good A → A 0 0 11 ≤ 200 → ∃ I1, Sn D mH (.inr (11, 0) :: as) I = some (some (.inl (ans A)), (sh0, I1)) ∧ RepC 0 (nxt A) I1 ∧ Fix I1 ∧ fr dC I I1)
    (hM : ∀ A I, RepR 0 A I → Good A → A 0 0 11 ≤ 200 → I 12 0 8 = -nI 1 → ∃ I2, Sn D mM (.inr (12, 0) :: as) I = some (some (.inl (ans A)), (sh0, I2)) ∧ RepR 0 (nxt A) I2 ∧ fr dM' I I2 ∧ k12 I I2)
    (hg : ∀ A, Good A → A 0 0 11 ≤ 200 → Good (nxt A) ∧ nxt A 0 0 11 ≤ 200 ∧ nxt A 0 0 2 = A 0 0 2) : Ok D mH mM as := by
  rintro I ⟨hr, A, h1, h2, h3, h4, h5⟩
  obtain ⟨I1, a1, a2, a3, a4⟩ := hH A I h1 hr.1 h3 h4
  have r1 := Rst_C hr a4 a3
  obtain ⟨g1, g2, g3⟩ := hg A h3 h4
  obtain ⟨I2, b1, b2, b3, b4⟩ := hM A I1 (RepR_o h2 (a4 47 0 (by unfold dC hc; omega))) h3 h4 r1.2.1.1
  refine ⟨ans A, I1, I2, a1, b1, Rst_M r1 b3 b4, nxt A, RepC_fr a2 g1 (fun k i q => b3 k i (by unfold dM'; unfold hc at q; omega)), b2, g1, g2, ?_⟩
  exact Img_M (Img_C h5 (A' := nxt A) (by omega) a4) (Nat.le_refl _) b3 b4
