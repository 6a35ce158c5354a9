/-! THE REFERENCE'S STATE: begins as an array of 0 and 1 -/
abbrev wM (h0 h1 : Nat) (cA : ClassId) (th n : Int32) (F : Nat → Int32) : va_W := [(h0, .inr (1, [.int th, .int n, .ref h1])), (h1, .inl (cA, 16385, .inl F))]
abbrev tM (cA : ClassId) : List (ClassId × FieldType) := [(cA, .boolean)]
def zv (b : Bool) : Int32 := if b then nI 1 else nI 0
theorem zv_f {b : Bool} (h : zv b = 0) : b = false := by
  cases b
  · rfl
  · exact absurd h (by decide)
theorem zv_t {b : Bool} (h : ¬ zv b = 0) : b = true := by
  cases b
  · exact absurd rfl h
  · rfl
def MF (F : Nat → Int32) (G : Nat → Bool) : Prop := ∀ j, j < 16385 → F j = zv (G j)
def upG (G : Nat → Bool) (i : Nat) (b : Bool) : Nat → Bool := fun j => if j = i then b else G j
theorem upG_eq {G : Nat → Bool} {i : Nat} {b : Bool} : upG G i b i = b := if_pos rfl
theorem upG_ne {G : Nat → Bool} {i j : Nat} {b : Bool} (h : j ≠ i) : upG G i b j = G j := if_neg h
theorem MF_up {F : Nat → Int32} {G : Nat → Bool} {i : Nat} {b : Bool} (h : MF F G) : MF (upd F i (zv b)) (upG G i b) := fun j hj => by
  by_cases q : j = i
  · rw [q, pk_us, upG_eq]
  · rw [pk_un q, upG_ne q, h j hj]
theorem MF_init : MF (upd (upd (fun _ => 0) 0 (nI 1)) 1024 (nI 1)) (fun j => decide (j = 0 ∨ j = 1024)) := fun j hj => by
  by_cases q : j = 1024
  · rw [q, pk_us]; rfl
  · rw [pk_un q]
    by_cases z : j = 0
    · rw [z, pk_us]; rfl
    · rw [pk_un z]
      show (0 : Int32) = zv (decide (j = 0 ∨ j = 1024))
      rw [decide_eq_false (by omega)]
      rfl
theorem z_inof2 {x : Int32} {n : Nat} (h1 : ¬ x < 0) (h2 : ¬ nI n ≤ x) (hn : n < 2147483648) : ∃ k, k < n ∧ x = nI k := by
  obtain ⟨j, hj, rfl⟩ := nI_of h1
  refine ⟨j, ?_, rfl⟩
  rcases Nat.lt_or_ge j n with q | q
  · exact q
  · exact absurd (nI_le q (by omega)) h2
theorem z_spof2 {x : Int32} (h1 : ¬ x < nI 1) (h2 : ¬ nI 16384 < x) : ∃ k, 1 ≤ k ∧ k ≤ 16384 ∧ x = nI k := by
  refine z_spof h1 ?_
  rw [Int32.le_iff_toInt_le]
  rw [Int32.lt_iff_toInt_lt] at h2
  omega
theorem z_mkof2 {z : Int32} {k n : Nat} (h1 : ¬ z ≤ nI k) (h2 : ¬ nI n < z) (hn : k < n ∧ n < 2147483648) : ∃ b, k < b ∧ b ≤ n ∧ z = nI b := by
  refine z_mkof h1 ?_ hn
  rw [Int32.le_iff_toInt_le]
  rw [Int32.lt_iff_toInt_lt] at h2
  omega
theorem z_lt0 {x : Int32} (h : x < 0) : x.toInt < 0 := by
  rw [Int32.lt_iff_toInt_lt, Int32.toInt_zero] at h
  exact h
theorem z_gt4 {x : Int32} (h : nI 4 < x) : 4 < x.toInt := by
  rw [Int32.lt_iff_toInt_lt, nI_toInt (by decide)] at h
  exact h
theorem z_nsw {x : Int32} (h1 : ¬ x < 0) (h2 : ¬ nI 4 < x) : ¬ (x.toInt < 0 ∨ 4 < x.toInt) := by
  rw [Int32.lt_iff_toInt_lt, Int32.toInt_zero] at h1
  rw [Int32.lt_iff_toInt_lt, nI_toInt (by decide)] at h2
  have e : ((4 : Nat) : Int) = 4 := rfl
  omega
