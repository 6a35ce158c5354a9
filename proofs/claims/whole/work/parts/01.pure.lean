/-! PURE: a row of cells with begins B : Nat → Bool. zb: where the piece over a cell begins; zn: the first begin from k on, or n; zc: how many begins ahead of n -/
def zb (B : Nat → Bool) : Nat → Nat
  | 0 => 0
  | c + 1 => if B (c + 1) = true then c + 1 else zb B c
def znf (B : Nat → Bool) : Nat → Nat → Nat
  | 0, k => k
  | f + 1, k => if B k = true then k else znf B f (k + 1)
def zn (B : Nat → Bool) (n k : Nat) : Nat := znf B (n - k) k
def zc (B : Nat → Bool) : Nat → Nat
  | 0 => 0
  | n + 1 => zc B n + (if B n = true then 1 else 0)
theorem zb_s (B : Nat → Bool) (c : Nat) : zb B (c + 1) = if B (c + 1) = true then c + 1 else zb B c := rfl
theorem znf_s (B : Nat → Bool) (f k : Nat) : znf B (f + 1) k = if B k = true then k else znf B f (k + 1) := rfl
theorem zc_s (B : Nat → Bool) (n : Nat) : zc B (n + 1) = zc B n + (if B n = true then 1 else 0) := rfl
theorem zb_le (B : Nat → Bool) (c : Nat) : zb B c ≤ c := by
  induction c with
  | zero => exact Nat.le_refl 0
  | succ c ih =>
    rw [zb_s]
    by_cases h : B (c + 1) = true
    · rw [if_pos h]; exact Nat.le_refl _
    · rw [if_neg h]; omega
theorem zb_on {B : Nat → Bool} (h0 : B 0 = true) (c : Nat) : B (zb B c) = true := by
  induction c with
  | zero => exact h0
  | succ c ih =>
    rw [zb_s]
    by_cases h : B (c + 1) = true
    · rw [if_pos h]; exact h
    · rw [if_neg h]; exact ih
theorem zb_off {B : Nat → Bool} (c : Nat) : ∀ j, zb B c < j → j ≤ c → B j = false := by
  induction c with
  | zero => intro j h1 h2; simp only [zb] at h1; omega
  | succ c ih =>
    intro j h1 h2
    rw [zb_s] at h1
    by_cases h : B (c + 1) = true
    · rw [if_pos h] at h1; omega
    · rw [if_neg h] at h1
      rcases Nat.lt_or_ge c j with q | q
      · have e : j = c + 1 := by omega
        subst e
        cases hb : B (c + 1)
        · rfl
        · exact absurd hb h
      · exact ih j h1 q
theorem zb_uniq {B : Nat → Bool} {b : Nat} : ∀ {c : Nat}, b ≤ c → (b = 0 ∨ B b = true) → (∀ j, b < j → j ≤ c → B j = false) → zb B c = b := by
  intro c
  induction c with
  | zero => intro h1 _ _; simp only [zb]; omega
  | succ c ih =>
    intro h1 h2 h3
    rw [zb_s]
    by_cases h : B (c + 1) = true
    · rw [if_pos h]
      rcases Nat.lt_or_ge b (c + 1) with q | q
      · rw [h3 (c + 1) q (Nat.le_refl _)] at h; cases h
      · omega
    · rw [if_neg h]
      rcases Nat.lt_or_ge b (c + 1) with q | q
      · exact ih (by omega) h2 (fun j a b => h3 j a (by omega))
      · have e : b = c + 1 := by omega
        rcases h2 with h2 | h2
        · omega
        · rw [e] at h2; exact absurd h2 h
theorem znf_ge (B : Nat → Bool) : ∀ f k, k ≤ znf B f k := by
  intro f
  induction f with
  | zero => intro k; exact Nat.le_refl _
  | succ f ih =>
    intro k
    rw [znf_s]
    by_cases h : B k = true
    · rw [if_pos h]; exact Nat.le_refl _
    · rw [if_neg h]; have := ih (k + 1); omega
theorem znf_le (B : Nat → Bool) : ∀ f k, znf B f k ≤ k + f := by
  intro f
  induction f with
  | zero => intro k; exact Nat.le_refl _
  | succ f ih =>
    intro k
    rw [znf_s]
    by_cases h : B k = true
    · rw [if_pos h]; omega
    · rw [if_neg h]; have := ih (k + 1); omega
theorem znf_on (B : Nat → Bool) : ∀ f k, znf B f k < k + f → B (znf B f k) = true := by
  intro f
  induction f with
  | zero => intro k h; simp only [znf] at h; omega
  | succ f ih =>
    intro k h
    rw [znf_s] at h ⊢
    by_cases hb : B k = true
    · rw [if_pos hb]; exact hb
    · rw [if_neg hb] at h ⊢
      exact ih (k + 1) (by omega)
theorem znf_off (B : Nat → Bool) : ∀ f k j, k ≤ j → j < znf B f k → B j = false := by
  intro f
  induction f with
  | zero => intro k j h1 h2; simp only [znf] at h2; omega
  | succ f ih =>
    intro k j h1 h2
    rw [znf_s] at h2
    by_cases hb : B k = true
    · rw [if_pos hb] at h2; omega
    · rw [if_neg hb] at h2
      rcases Nat.lt_or_ge k j with q | q
      · exact ih (k + 1) j q h2
      · have e : j = k := by omega
        subst e
        cases h : B j
        · rfl
        · exact absurd h hb
theorem zn_ge (B : Nat → Bool) (n k : Nat) : k ≤ zn B n k := znf_ge B _ k
theorem zn_le {B : Nat → Bool} {n k : Nat} (h : k ≤ n) : zn B n k ≤ n := by
  have := znf_le B (n - k) k
  unfold zn
  omega
theorem zn_on {B : Nat → Bool} {n k : Nat} (h : zn B n k < n) : B (zn B n k) = true := by
  have h1 := zn_ge B n k
  exact znf_on B (n - k) k (by unfold zn at h h1; omega)
theorem zn_off {B : Nat → Bool} {n k : Nat} : ∀ j, k ≤ j → j < zn B n k → B j = false := fun j => znf_off B (n - k) k j
theorem zn_uniq {B : Nat → Bool} {n k e : Nat} (h1 : k ≤ e) (h2 : e ≤ n) (h3 : e = n ∨ B e = true) (h4 : ∀ j, k ≤ j → j < e → B j = false) : zn B n k = e := by
  have a1 := zn_ge B n k
  have a2 : zn B n k ≤ n := zn_le (by omega)
  rcases Nat.lt_trichotomy (zn B n k) e with q | q | q
  · have := zn_on (B := B) (n := n) (k := k) (by omega)
    rw [h4 _ a1 q] at this
    cases this
  · exact q
  · have := zn_off (B := B) (n := n) (k := k) e h1 q
    rcases h3 with h3 | h3
    · omega
    · rw [this] at h3; cases h3
theorem zn_congr {B C : Nat → Bool} {n k : Nat} (hk : k ≤ n) (h : ∀ j, k ≤ j → j < n → B j = C j) : zn B n k = zn C n k := by
  refine zn_uniq (zn_ge C n k) (zn_le hk) ?_ ?_
  · rcases Nat.lt_or_ge (zn C n k) n with q | q
    · exact Or.inr (by rw [h _ (zn_ge C n k) q]; exact zn_on q)
    · have := zn_le (B := C) hk
      exact Or.inl (by omega)
  · intro j a b
    have := zn_le (B := C) hk
    rw [h j a (by omega)]
    exact zn_off j a b
theorem zb_congr {B C : Nat → Bool} {c : Nat} (h : ∀ j, j ≤ c → B j = C j) : zb B c = zb C c := by
  induction c with
  | zero => rfl
  | succ c ih =>
    rw [zb_s, zb_s, h (c + 1) (Nat.le_refl _), ih (fun j hj => h j (by omega))]
theorem zc_congr {B C : Nat → Bool} {n : Nat} (h : ∀ j, j < n → B j = C j) : zc B n = zc C n := by
  induction n with
  | zero => rfl
  | succ n ih =>
    rw [zc_s, zc_s, h n (Nat.lt_succ_self n), ih (fun j hj => h j (by omega))]
theorem zc_le (B : Nat → Bool) (n : Nat) : zc B n ≤ n := by
  induction n with
  | zero => exact Nat.le_refl _
  | succ n ih =>
    rw [zc_s]
    by_cases h : B n = true
    · rw [if_pos h]; omega
    · rw [if_neg h]; omega
theorem zc_mono (B : Nat → Bool) {a b : Nat} (h : a ≤ b) : zc B a ≤ zc B b := by
  induction b with
  | zero => have e : a = 0 := by omega
            rw [e]; exact Nat.le_refl _
  | succ b ih =>
    rcases Nat.lt_or_ge b a with q | q
    · have e : a = b + 1 := by omega
      rw [e]; exact Nat.le_refl _
    · have := ih q
      rw [zc_s]
      omega
theorem zc_pos {B : Nat → Bool} {c n : Nat} (hc : c < n) (h : B c = true) : 1 ≤ zc B n := by
  have h1 := zc_mono B (show c + 1 ≤ n by omega)
  have h2 : zc B (c + 1) = zc B c + 1 := by
    show zc B c + (if B c = true then 1 else 0) = _
    rw [if_pos h]
  omega
/-- one begin more -/
theorem zc_set {B C : Nat → Bool} {c n : Nat} (hc : c < n) (hB : B c = false) (hC : C c = true) (h : ∀ j, j < n → j ≠ c → C j = B j) : zc C n = zc B n + 1 := by
  induction n with
  | zero => omega
  | succ n ih =>
    rw [zc_s, zc_s]
    by_cases e : c = n
    · subst e
      rw [if_pos hC, hB, zc_congr (B := C) (C := B) (fun j hj => h j (by omega) (by omega))]
      simp
    · rw [ih (by omega) (fun j hj hj2 => h j (by omega) hj2), h n (by omega) (fun q => e q.symm)]
      omega
