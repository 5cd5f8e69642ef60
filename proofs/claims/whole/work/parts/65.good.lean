/-! Bounds behind writes. -/
theorem Good_st {A : mm_A} {p c v : Nat} (g : Good A) (hs : StG (uN (A 1 p) c v)) : Good (sA A 1 p c v) := by
  unfold Good cods at *
  rw [sA_o (show 0 ≠ 1 by decide), sA_o (show 2 ≠ 1 by decide), sA_o (show 3 ≠ 1 by decide), sA_o (show 4 ≠ 1 by decide), sA_o (show 5 ≠ 1 by decide), sA_o (show 6 ≠ 1 by decide), sA_o (show 7 ≠ 1 by decide), sA_o (show 8 ≠ 1 by decide), sA_o (show 9 ≠ 1 by decide), sA_o (show 10 ≠ 1 by decide)]
  refine ⟨g.1, g.2.1, fun p' hp' => ?_, g.2.2.2⟩
  by_cases e : p' = p
  · rw [e, sA_r]; exact hs
  · rw [sA_ro e]; exact g.2.2.1 p' hp'
theorem Good_mend {A : mm_A} {m v : Nat} (g : Good A) (hv : v ≤ 1) : Good (sA A 5 m 3 v) := by
  unfold Good cods at *
  rw [sA_o (show 0 ≠ 5 by decide), sA_o (show 1 ≠ 5 by decide), sA_o (show 2 ≠ 5 by decide), sA_o (show 3 ≠ 5 by decide), sA_o (show 4 ≠ 5 by decide), sA_o (show 6 ≠ 5 by decide), sA_o (show 7 ≠ 5 by decide), sA_o (show 8 ≠ 5 by decide), sA_o (show 9 ≠ 5 by decide), sA_o (show 10 ≠ 5 by decide)]
  refine ⟨g.1, g.2.1, g.2.2.1, g.2.2.2.1, g.2.2.2.2.1, g.2.2.2.2.2.1, fun r hr => ?_, g.2.2.2.2.2.2.2⟩
  obtain ⟨g1, g2, g3, g4, g5⟩ := g.2.2.2.2.2.2.1 r hr
  rw [sA_F (by omega), sA_F (by omega), sA_F (by omega)]
  refine ⟨g1, g2, g3, g4, ?_⟩
  by_cases e : r = m
  · rw [sA_T ⟨rfl, e, rfl⟩]; exact hv
  · rw [sA_F (by omega)]; exact g5
theorem tH_lt {t : Nat} (h : t < 7) : tH t < 9 := by rcases t7 h with e | e | e | e | e | e | e <;> subst e <;> decide
theorem Good_sc {A : mm_A} {c v : Nat} (g : Good A) (hc : 9 ≤ c) (h9 : c = 9 → v ≤ 10) (h10 : c = 10 → v ≤ 999999999) (h11 : c = 11 → v ≤ 300) : Good (sA A 0 0 c v) := by
  unfold Good cods at *
  have e : ∀ c', c' < 9 → sA A 0 0 c v 0 0 c' = A 0 0 c' := fun c' h => sA_F (by omega)
  rw [e 0 (by decide), e 1 (by decide), e 2 (by decide), e 3 (by decide), e 4 (by decide), e 5 (by decide), e 6 (by decide), e 7 (by decide), e 8 (by decide), sA_o (show 1 ≠ 0 by decide), sA_o (show 2 ≠ 0 by decide), sA_o (show 3 ≠ 0 by decide), sA_o (show 4 ≠ 0 by decide), sA_o (show 5 ≠ 0 by decide), sA_o (show 6 ≠ 0 by decide), sA_o (show 7 ≠ 0 by decide), sA_o (show 8 ≠ 0 by decide), sA_o (show 9 ≠ 0 by decide), sA_o (show 10 ≠ 0 by decide)]
  obtain ⟨⟨a1, a2, a3, a4, a5⟩, g2⟩ := g
  refine ⟨⟨a1, a2, ?_, ?_, ?_⟩, fun t ht => by rw [e _ (tH_lt ht)]; exact g2.1 t ht, g2.2⟩
  · by_cases q : c = 9
    · rw [sA_T ⟨rfl, rfl, q.symm⟩]; exact h9 q
    · rw [sA_F (by omega)]; exact a3
  · by_cases q : c = 10
    · rw [sA_T ⟨rfl, rfl, q.symm⟩]; exact h10 q
    · rw [sA_F (by omega)]; exact a4
  · by_cases q : c = 11
    · rw [sA_T ⟨rfl, rfl, q.symm⟩]; exact h11 q
    · rw [sA_F (by omega)]; exact a5
theorem Good_rain {A : mm_A} {y v : Nat} (g : Good A) (hv : v ≤ 20) : Good (sA A 2 0 y v) := by
  unfold Good cods at *
  rw [sA_o (show 0 ≠ 2 by decide), sA_o (show 1 ≠ 2 by decide), sA_o (show 3 ≠ 2 by decide), sA_o (show 4 ≠ 2 by decide), sA_o (show 5 ≠ 2 by decide), sA_o (show 6 ≠ 2 by decide), sA_o (show 7 ≠ 2 by decide), sA_o (show 8 ≠ 2 by decide), sA_o (show 9 ≠ 2 by decide), sA_o (show 10 ≠ 2 by decide)]
  refine ⟨g.1, g.2.1, g.2.2.1, fun y' hy => ?_, g.2.2.2.2⟩
  by_cases e : y' = y
  · rw [e, sA_s]; exact hv
  · rw [sA_F (by omega)]; exact g.2.2.2.1 y' hy
theorem StG_w {f : Nat → Nat} {v : Nat} (h : StG f) (h1 : 1 ≤ v) (h2 : v ≤ 9999) : StG (uN f 5 v) := by
  obtain ⟨g0, g1, g2, g3, g4, g5, g6, g7, g8, g9, g10, g11⟩ := h
  simp only [StG, uN]
  simp
  omega
theorem StG_k {f : Nat → Nat} {v : Nat} (h : StG f) (h2 : v ≤ 4) : StG (uN f 8 v) := by
  obtain ⟨g0, g1, g2, g3, g4, g5, g6, g7, g8, g9, g10, g11⟩ := h
  simp only [StG, uN]
  simp
  omega
theorem StG_s {f : Nat → Nat} {v : Nat} (h : StG f) (h2 : v ≤ 1) : StG (uN f 7 v) := by
  obtain ⟨g0, g1, g2, g3, g4, g5, g6, g7, g8, g9, g10, g11⟩ := h
  simp only [StG, uN]
  simp
  omega
theorem hzN : ∀ p, p < 16 → (nI p = -nI 1000000005 ↔ p = 99) := fun p hp => by
  have := ngE (p := p) (m := 1000000005) (by omega) (by decide) (by decide)
  rw [this]
  exact ⟨fun q => q.elim, fun q => by omega⟩
theorem hzM {I : mm_I} (h : I 12 0 8 = -nI 1) : ∀ p, p < 16 → (nI p = I 12 0 8 ↔ p = 99) := fun p hp => by
  rw [h, ngE (p := p) (m := 1) (by omega) (by decide) (by decide)]
  exact ⟨fun q => q.elim, fun q => by omega⟩
theorem mdG {A : mm_A} (g : Good A) {m : Nat} (h : m < A 0 0 3) : A 5 m 0 < A 0 0 0 ∧ 1 ≤ A 5 m 1 ∧ A 5 m 1 ≤ 4 ∧ A 5 m 2 ≤ 200 ∧ A 5 m 3 ≤ 1 := g.2.2.2.2.2.2.1 m h
theorem dnG {A : mm_A} (g : Good A) {m : Nat} (h : m < A 0 0 5) : A 7 m 0 ≤ 200 ∧ 1 ≤ A 7 m 1 ∧ A 7 m 1 ≤ 99999 := g.2.2.2.2.2.2.2.2.1 m h
theorem ldG {A : mm_A} (g : Good A) {m : Nat} (h : m < A 0 0 6) : 1 ≤ A 8 m 0 ∧ A 8 m 0 ≤ 99 := g.2.2.2.2.2.2.2.2.2.1 m h
theorem ppG {A : mm_A} (g : Good A) {m : Nat} (h : m < A 0 0 7) : A 9 m 0 ≤ 15 ∧ A 9 m 1 ≤ 63 := g.2.2.2.2.2.2.2.2.2.2.1 m h
theorem jbG {A : mm_A} (g : Good A) {m : Nat} (h : m < A 0 0 8) : A 10 m 0 ≤ 3 ∧ 1 ≤ A 10 m 1 ∧ A 10 m 1 ≤ 60 := g.2.2.2.2.2.2.2.2.2.2.2 m h
theorem chG {A : mm_A} (g : Good A) {m : Nat} (h : m < A 0 0 4) : A 6 m 0 < A 0 0 0 := g.2.2.2.2.2.2.2.1 m h
theorem stG {A : mm_A} (g : Good A) {p : Nat} (h : p < A 0 0 0) : StG (A 1 p) := g.2.2.1 p h
/-! a year, on the abstract state -/
def rnA (A : mm_A) (y : Nat) : Nat := if y ≤ 200 then A 2 0 y else 5
noncomputable def gwV (A : mm_A) (p : Nat) : Nat := wdN (A 1 p 5) (wrF (A 1 p) (bo A 99 p) (rnA A (A 0 0 11)) + brN (A 1 p 5))
noncomputable def yg (A : mm_A) : Nat → mm_A
  | 0 => A
  | k + 1 => sA (yg A k) 1 k 5 (gwV A k)
def mn12 (w : Nat) : Nat := if w ≤ 12 then w else 12
def ymS (B : mm_A) (m : Nat) : mm_A := if B 5 m 3 = 0 ∧ B 5 m 2 = B 0 0 11 then sA (sA (sA B 1 (B 5 m 0) 8 (B 5 m 1)) 1 (B 5 m 0) 5 (mn12 (B 1 (B 5 m 0) 5))) 5 m 3 1 else B
def ym (B : mm_A) : Nat → mm_A
  | 0 => B
  | k + 1 => ymS (ym B k) k
def ypS (B : mm_A) (k : Nat) : mm_A := if B 7 k 0 = B 0 0 11 then sA B 0 0 10 (if 999999999 ≤ B 0 0 10 + B 7 k 1 then 999999999 else B 0 0 10 + B 7 k 1) else B
def yp (B : mm_A) : Nat → mm_A
  | 0 => B
  | k + 1 => ypS (yp B k) k
noncomputable def yrA (A : mm_A) : mm_A := sA (yp (ym (yg A (A 0 0 0)) (A 0 0 3)) (A 0 0 5)) 0 0 11 (A 0 0 11 + 1)
theorem rnA_b {A : mm_A} (g : Good A) (y : Nat) : rnA A y ≤ 20 := by
  unfold rnA
  split
  · exact g.2.2.2.1 y (by omega)
  · omega
theorem gw_b {A : mm_A} (g : Good A) {p : Nat} (hp : p < A 0 0 0) : 1 ≤ gwV A p ∧ gwV A p ≤ 9999 := by
  have := (stG g hp).2.2.2.2.2.2.2.1
  unfold gwV wdN
  split <;> omega
theorem yg_o {A : mm_A} {s : Nat} (h : s ≠ 1) : ∀ k, yg A k s = A s
  | 0 => rfl
  | k + 1 => by rw [yg, sA_o h, yg_o h k]
theorem yg_row {A : mm_A} {p : Nat} : ∀ k, k ≤ p → yg A k 1 p = A 1 p
  | 0, _ => rfl
  | k + 1, h => by rw [yg, sA_ro (by omega), yg_row k (by omega)]
theorem yg_g {A : mm_A} (g : Good A) : ∀ k, k ≤ A 0 0 0 → Good (yg A k)
  | 0, _ => g
  | k + 1, h => by
    have hb := gw_b g (show k < A 0 0 0 by omega)
    rw [yg]
    refine Good_st (yg_g g k (by omega)) ?_
    rw [yg_row k (Nat.le_refl _)]
    exact StG_w (stG g (by omega)) hb.1 hb.2
theorem ymS_o {B : mm_A} {m s : Nat} (h1 : s ≠ 1) (h5 : s ≠ 5) : ymS B m s = B s := by
  unfold ymS
  split
  · rw [sA_o h5, sA_o h1, sA_o h1]
  · rfl
theorem ymS_g {B : mm_A} {m : Nat} (g : Good B) (hm : m < B 0 0 3) : Good (ymS B m) := by
  unfold ymS
  split
  · obtain ⟨g1, g2, g3, g4, g5⟩ := mdG g hm
    have hs := stG g g1
    refine Good_mend (Good_st (Good_st g (StG_k hs g3)) ?_) (by omega)
    rw [sA_r]
    have := hs.2.2.2.2.2.2.2.1
    exact StG_w (StG_k hs g3) (by unfold mn12; split <;> omega) (by unfold mn12; split <;> omega)
  · exact g
theorem ym_o {B : mm_A} {s : Nat} (h1 : s ≠ 1) (h5 : s ≠ 5) : ∀ k, ym B k s = B s
  | 0 => rfl
  | k + 1 => by rw [ym, ymS_o h1 h5, ym_o h1 h5 k]
theorem ym_g {B : mm_A} (g : Good B) : ∀ k, k ≤ B 0 0 3 → Good (ym B k)
  | 0, _ => g
  | k + 1, h => by rw [ym]; exact ymS_g (ym_g g k (by omega)) (by rw [ym_o (by decide) (by decide)]; omega)
theorem ypS_o {B : mm_A} {m s : Nat} (h : s ≠ 0) : ypS B m s = B s := by
  unfold ypS
  split
  · rw [sA_o h]
  · rfl
theorem ypS_c {B : mm_A} {m c : Nat} (h : c ≠ 10) : ypS B m 0 0 c = B 0 0 c := by
  unfold ypS
  split
  · rw [sA_F (by omega)]
  · rfl
theorem ypS_g {B : mm_A} {m : Nat} (g : Good B) : Good (ypS B m) := by
  unfold ypS
  split
  · exact Good_sc g (by decide) (fun q => by omega) (fun _ => by split <;> omega) (fun q => by omega)
  · exact g
theorem yp_o {B : mm_A} {s : Nat} (h : s ≠ 0) : ∀ k, yp B k s = B s
  | 0 => rfl
  | k + 1 => by rw [yp, ypS_o h, yp_o h k]
theorem yp_c {B : mm_A} {c : Nat} (h : c ≠ 10) : ∀ k, yp B k 0 0 c = B 0 0 c
  | 0 => rfl
  | k + 1 => by rw [yp, ypS_c h, yp_c h k]
theorem yp_g {B : mm_A} (g : Good B) : ∀ k, Good (yp B k)
  | 0 => g
  | k + 1 => by rw [yp]; exact ypS_g (yp_g g k)
theorem yrA_g {A : mm_A} (g : Good A) (hy : A 0 0 11 < 300) : Good (yrA A) := by
  unfold yrA
  refine Good_sc (yp_g (ym_g (yg_g g _ (Nat.le_refl _)) _ (by rw [yg_o (by decide)]; exact Nat.le_refl _)) _) (by decide) (fun q => by omega) (fun q => by omega) (fun _ => by omega)
theorem yrA_c {A : mm_A} {c : Nat} (h : c ≠ 10) (h2 : c ≠ 11) : yrA A 0 0 c = A 0 0 c := by
  unfold yrA
  rw [sA_F (by omega), yp_c h, ym_o (by decide) (by decide), yg_o (by decide)]
theorem yrA_y (A : mm_A) : yrA A 0 0 11 = A 0 0 11 + 1 := sA_s _ _ _ _ _
theorem yrA_3 (A : mm_A) : yrA A 3 = A 3 := by
  unfold yrA
  rw [sA_o (by decide), yp_o (by decide), ym_o (by decide) (by decide), yg_o (by decide)]
