/-! What the ints are behind the constructors. -/
def A00 : mm_A := fun s _ c => if s = 2 then 5 else if s = 0 ∧ c = 9 then 10 else 0
def ckA (n : Nat) (f : Nat → Bool) : Bool := (List.range n).all f
theorem ckA_i {n : Nat} {f : Nat → Bool} (h : ckA n f = true) : ∀ k, k < n → f k = true := fun k hk => List.all_eq_true.mp h k (List.mem_range.mpr hk)
def ceI (x y : Int32) : Bool := decide (x = y)
def ck_1 (I : mm_I) : Bool := ceI (I 3 0 1) 0 && ceI (I 3 0 5) 0 && ceI (I 3 0 13) 10 && ceI (I 3 0 7) 0 && ceI (I 3 0 4) 0 && ckA 7 (fun t => ceI (I 7 t 3) 0) && ckA 12 (fun c => ceI (I 47 0 c) (nI (A00 0 0 c))) && ckA 21 (fun r => ceI (I 7 r 1) (nI (tM (r % 7))) && ceI (I 7 r 2) (nI (tW (r % 7)))) && ceI (I 12 0 8) (-1) && ckA 5 (fun k => ceI (I 53 0 k) (nI (mm_at 0 kyA k))) && ckA 18 (fun k => ceI (I 210 0 k) (nI (mm_at 0 kyC k))) && ceI (I 5 0 1) 0 && ceI (I 12 0 11) 0 && ckA 5 (fun h => ceI (I 4 h 0) 0 && ceI (I 68 0 h) 0) && ceI (I 11 0 16) 0 && ceI (I 12 0 47) 0 && ceI (I 11 0 3) 0 && ceI (I 12 0 3) 0
def ck_2 (I : mm_I) : Bool := ckA 9 (fun c => ceI (I 1 c 0) (-1) && ceI (I 64 0 c) (-1) && ceI (I 1 c 1) 0 && ceI (I 65 0 c) 0 && ckA 24 (fun k => ceI (I 25 c k) 0 && ceI (I 66 0 (24 * c + k)) 0))
def ck_3 (I : mm_I) : Bool := ckA 201 (fun y => ceI (I 28 0 y) 5 && ceI (I 47 0 (340 + y)) 5)
theorem cz_4 : (match cz_r with | some q => ck_1 q.2.2 | none => false) = true := by decide +kernel
theorem cz_5 : (match cz_r with | some q => ck_2 q.2.2 | none => false) = true := by decide +kernel
theorem cz_6 : (match cz_r with | some q => ck_3 q.2.2 | none => false) = true := by decide +kernel
