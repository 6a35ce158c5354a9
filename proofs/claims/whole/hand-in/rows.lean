section
/-! PURE: a row of cells with begins B : Nat → Bool. zb: where the piece over a cell begins; zn: the first begin from k on, or n; zc: how many begins ahead of n -/
def zb (B : Nat → Bool) : Nat → Nat
  | 0 => 0
  | c + 1 => if B (c + 1) = true then c + 1 else zb B c
def znf (B : Nat → Bool) : Nat → Nat → Nat
  | 0, k => k
  | f + 1, k => if B k = true then k else znf B f (k + 1)
def zn (B : Nat → Bool) (n k : Nat) : Nat := znf B (n - k) k
def zc (B : Nat → Bool) : Nat → Nat
  | 0 => 0
  | n + 1 => zc B n + (if B n = true then 1 else 0)
theorem zb_s (B : Nat → Bool) (c : Nat) : zb B (c + 1) = if B (c + 1) = true then c + 1 else zb B c := rfl
theorem znf_s (B : Nat → Bool) (f k : Nat) : znf B (f + 1) k = if B k = true then k else znf B f (k + 1) := rfl
theorem zc_s (B : Nat → Bool) (n : Nat) : zc B (n + 1) = zc B n + (if B n = true then 1 else 0) := rfl
theorem zb_le (B : Nat → Bool) (c : Nat) : zb B c ≤ c := by
  induction c with
  | zero => exact Nat.le_refl 0
  | succ c ih =>
    rw [zb_s]
    by_cases h : B (c + 1) = true
    · rw [if_pos h]; exact Nat.le_refl _
    · rw [if_neg h]; omega
theorem zb_on {B : Nat → Bool} (h0 : B 0 = true) (c : Nat) : B (zb B c) = true := by
  induction c with
  | zero => exact h0
  | succ c ih =>
    rw [zb_s]
    by_cases h : B (c + 1) = true
    · rw [if_pos h]; exact h
    · rw [if_neg h]; exact ih
theorem zb_off {B : Nat → Bool} (c : Nat) : ∀ j, zb B c < j → j ≤ c → B j = false := by
  induction c with
  | zero => intro j h1 h2; simp only [zb] at h1; omega
  | succ c ih =>
    intro j h1 h2
    rw [zb_s] at h1
    by_cases h : B (c + 1) = true
    · rw [if_pos h] at h1; omega
    · rw [if_neg h] at h1
      rcases Nat.lt_or_ge c j with q | q
      · have e : j = c + 1 := by omega
        subst e
        cases hb : B (c + 1)
        · rfl
        · exact absurd hb h
      · exact ih j h1 q
theorem zb_uniq {B : Nat → Bool} {b : Nat} : ∀ {c : Nat}, b ≤ c → (b = 0 ∨ B b = true) → (∀ j, b < j → j ≤ c → B j = false) → zb B c = b := by
  intro c
  induction c with
  | zero => intro h1 _ _; simp only [zb]; omega
  | succ c ih =>
    intro h1 h2 h3
    rw [zb_s]
    by_cases h : B (c + 1) = true
    · rw [if_pos h]
      rcases Nat.lt_or_ge b (c + 1) with q | q
      · rw [h3 (c + 1) q (Nat.le_refl _)] at h; cases h
      · omega
    · rw [if_neg h]
      rcases Nat.lt_or_ge b (c + 1) with q | q
      · exact ih (by omega) h2 (fun j a b => h3 j a (by omega))
      · have e : b = c + 1 := by omega
        rcases h2 with h2 | h2
        · omega
        · rw [e] at h2; exact absurd h2 h
theorem znf_ge (B : Nat → Bool) : ∀ f k, k ≤ znf B f k := by
  intro f
  induction f with
  | zero => intro k; exact Nat.le_refl _
  | succ f ih =>
    intro k
    rw [znf_s]
    by_cases h : B k = true
    · rw [if_pos h]; exact Nat.le_refl _
    · rw [if_neg h]; have := ih (k + 1); omega
theorem znf_le (B : Nat → Bool) : ∀ f k, znf B f k ≤ k + f := by
  intro f
  induction f with
  | zero => intro k; exact Nat.le_refl _
  | succ f ih =>
    intro k
    rw [znf_s]
    by_cases h : B k = true
    · rw [if_pos h]; omega
    · rw [if_neg h]; have := ih (k + 1); omega
theorem znf_on (B : Nat → Bool) : ∀ f k, znf B f k < k + f → B (znf B f k) = true := by
  intro f
  induction f with
  | zero => intro k h; simp only [znf] at h; omega
  | succ f ih =>
    intro k h
    rw [znf_s] at h ⊢
    by_cases hb : B k = true
    · rw [if_pos hb]; exact hb
    · rw [if_neg hb] at h ⊢
      exact ih (k + 1) (by omega)
theorem znf_off (B : Nat → Bool) : ∀ f k j, k ≤ j → j < znf B f k → B j = false := by
  intro f
  induction f with
  | zero => intro k j h1 h2; simp only [znf] at h2; omega
  | succ f ih =>
    intro k j h1 h2
    rw [znf_s] at h2
    by_cases hb : B k = true
    · rw [if_pos hb] at h2; omega
    · rw [if_neg hb] at h2
      rcases Nat.lt_or_ge k j with q | q
      · exact ih (k + 1) j q h2
      · have e : j = k := by omega
        subst e
        cases h : B j
        · rfl
        · exact absurd h hb
theorem zn_ge (B : Nat → Bool) (n k : Nat) : k ≤ zn B n k := znf_ge B _ k
theorem zn_le {B : Nat → Bool} {n k : Nat} (h : k ≤ n) : zn B n k ≤ n := by
  have := znf_le B (n - k) k
  unfold zn
  omega
theorem zn_on {B : Nat → Bool} {n k : Nat} (h : zn B n k < n) : B (zn B n k) = true := by
  have h1 := zn_ge B n k
  exact znf_on B (n - k) k (by unfold zn at h h1; omega)
theorem zn_off {B : Nat → Bool} {n k : Nat} : ∀ j, k ≤ j → j < zn B n k → B j = false := fun j => znf_off B (n - k) k j
theorem zn_uniq {B : Nat → Bool} {n k e : Nat} (h1 : k ≤ e) (h2 : e ≤ n) (h3 : e = n ∨ B e = true) (h4 : ∀ j, k ≤ j → j < e → B j = false) : zn B n k = e := by
  have a1 := zn_ge B n k
  have a2 : zn B n k ≤ n := zn_le (by omega)
  rcases Nat.lt_trichotomy (zn B n k) e with q | q | q
  · have := zn_on (B := B) (n := n) (k := k) (by omega)
    rw [h4 _ a1 q] at this
    cases this
  · exact q
  · have := zn_off (B := B) (n := n) (k := k) e h1 q
    rcases h3 with h3 | h3
    · omega
    · rw [this] at h3; cases h3
theorem zn_congr {B C : Nat → Bool} {n k : Nat} (hk : k ≤ n) (h : ∀ j, k ≤ j → j < n → B j = C j) : zn B n k = zn C n k := by
  refine zn_uniq (zn_ge C n k) (zn_le hk) ?_ ?_
  · rcases Nat.lt_or_ge (zn C n k) n with q | q
    · exact Or.inr (by rw [h _ (zn_ge C n k) q]; exact zn_on q)
    · have := zn_le (B := C) hk
      exact Or.inl (by omega)
  · intro j a b
    have := zn_le (B := C) hk
    rw [h j a (by omega)]
    exact zn_off j a b
theorem zb_congr {B C : Nat → Bool} {c : Nat} (h : ∀ j, j ≤ c → B j = C j) : zb B c = zb C c := by
  induction c with
  | zero => rfl
  | succ c ih =>
    rw [zb_s, zb_s, h (c + 1) (Nat.le_refl _), ih (fun j hj => h j (by omega))]
theorem zc_congr {B C : Nat → Bool} {n : Nat} (h : ∀ j, j < n → B j = C j) : zc B n = zc C n := by
  induction n with
  | zero => rfl
  | succ n ih =>
    rw [zc_s, zc_s, h n (Nat.lt_succ_self n), ih (fun j hj => h j (by omega))]
theorem zc_le (B : Nat → Bool) (n : Nat) : zc B n ≤ n := by
  induction n with
  | zero => exact Nat.le_refl _
  | succ n ih =>
    rw [zc_s]
    by_cases h : B n = true
    · rw [if_pos h]; omega
    · rw [if_neg h]; omega
theorem zc_mono (B : Nat → Bool) {a b : Nat} (h : a ≤ b) : zc B a ≤ zc B b := by
  induction b with
  | zero => have e : a = 0 := by omega
            rw [e]; exact Nat.le_refl _
  | succ b ih =>
    rcases Nat.lt_or_ge b a with q | q
    · have e : a = b + 1 := by omega
      rw [e]; exact Nat.le_refl _
    · have := ih q
      rw [zc_s]
      omega
theorem zc_pos {B : Nat → Bool} {c n : Nat} (hc : c < n) (h : B c = true) : 1 ≤ zc B n := by
  have h1 := zc_mono B (show c + 1 ≤ n by omega)
  have h2 : zc B (c + 1) = zc B c + 1 := by
    show zc B c + (if B c = true then 1 else 0) = _
    rw [if_pos h]
  omega
/-- one begin more -/
theorem zc_set {B C : Nat → Bool} {c n : Nat} (hc : c < n) (hB : B c = false) (hC : C c = true) (h : ∀ j, j < n → j ≠ c → C j = B j) : zc C n = zc B n + 1 := by
  induction n with
  | zero => omega
  | succ n ih =>
    rw [zc_s, zc_s]
    by_cases e : c = n
    · subst e
      rw [if_pos hC, hB, zc_congr (B := C) (C := B) (fun j hj => h j (by omega) (by omega))]
      simp
    · rw [ih (by omega) (fun j hj hj2 => h j (by omega) hj2), h n (by omega) (fun q => e q.symm)]
      omega
end
section
/-! ===== Int32 by its bits: bt x i ===== -/
def bt (x : Int32) (i : Nat) : Bool := x.toBitVec.getLsbD i
theorem b_ext {x y : Int32} (h : ∀ i, i < 32 → bt x i = bt y i) : x = y := Int32.toBitVec_inj.mp (BitVec.eq_of_getLsbD_eq (fun i hi => h i hi))
theorem b_or (x y : Int32) (i : Nat) : bt (x ||| y) i = (bt x i || bt y i) := by unfold bt; rw [Int32.toBitVec_or, BitVec.getLsbD_or]
theorem b_and (x y : Int32) (i : Nat) : bt (x &&& y) i = (bt x i && bt y i) := by unfold bt; rw [Int32.toBitVec_and, BitVec.getLsbD_and]
theorem b_xor (x y : Int32) (i : Nat) : bt (x ^^^ y) i = (bt x i ^^ bt y i) := by unfold bt; rw [Int32.toBitVec_xor, BitVec.getLsbD_xor]
theorem b_big {x : Int32} {i : Nat} (h : 32 ≤ i) : bt x i = false := BitVec.getLsbD_of_ge _ _ h
theorem b_255 (i : Nat) : bt 255 i = decide (i < 8) := by
  rcases Nat.lt_or_ge i 32 with h | h
  · exact (by decide +kernel : ∀ i, i < 32 → bt 255 i = decide (i < 8)) i h
  · rw [b_big h, decide_eq_false (by omega)]
theorem b_65535 (i : Nat) : bt 65535 i = decide (i < 16) := by
  rcases Nat.lt_or_ge i 32 with h | h
  · exact (by decide +kernel : ∀ i, i < 32 → bt 65535 i = decide (i < 16)) i h
  · rw [b_big h, decide_eq_false (by omega)]
theorem b_m1 : ∀ i, i < 32 → bt (-1) i = true := by decide +kernel
theorem b_0 (i : Nat) : bt 0 i = false := BitVec.getLsbD_zero
theorem s_l : ∀ n, n < 32 → ((nI n &&& 31).toBitVec.smod 32).toNat = n := by decide +kernel
theorem s_u : ∀ n, n < 32 → (((nI n).toUInt32 &&& Int32.toUInt32 31).toBitVec % 32).toNat = n := by decide +kernel
theorem b_shl (n : Nat) (hn : n < 32) (x : Int32) {i : Nat} (hi : i < 32) : bt (x <<< (nI n &&& 31)) i = (decide (n ≤ i) && bt x (i - n)) := by
  unfold bt
  rw [Int32.toBitVec_shiftLeft]
  show (x.toBitVec <<< ((nI n &&& 31).toBitVec.smod 32).toNat).getLsbD i = _
  rw [s_l n hn, BitVec.getLsbD_shiftLeft]
  rcases Nat.lt_or_ge i n with h | h
  · simp [h, Nat.not_le.mpr h]
  · simp [hi, h, Nat.not_lt.mpr h]
theorem b_ushr (n : Nat) (hn : n < 32) (x : Int32) (i : Nat) : bt ((x.toUInt32 >>> ((nI n).toUInt32 &&& Int32.toUInt32 31)).toInt32) i = bt x (n + i) := by
  show (x.toUInt32 >>> ((nI n).toUInt32 &&& Int32.toUInt32 31)).toBitVec.getLsbD i = x.toUInt32.toBitVec.getLsbD (n + i)
  rw [UInt32.toBitVec_shiftRight]
  show (x.toUInt32.toBitVec >>> (((nI n).toUInt32 &&& Int32.toUInt32 31).toBitVec % 32).toNat).getLsbD i = _
  rw [s_u n hn, BitVec.getLsbD_ushiftRight]
theorem b_sshr (n : Nat) (hn : n < 32) (x : Int32) {i : Nat} (hi : i < 32) : bt (x >>> (nI n &&& 31)) i = if n + i < 32 then bt x (n + i) else bt x 31 := by
  unfold bt
  rw [Int32.toBitVec_shiftRight]
  show (x.toBitVec.sshiftRight ((nI n &&& 31).toBitVec.smod 32).toNat).getLsbD i = _
  rw [s_l n hn, BitVec.getLsbD_sshiftRight, BitVec.msb_eq_getLsbD_last]
  simp [hi]
theorem b_shl8 (x : Int32) {i : Nat} (hi : i < 32) : bt (x <<< ((8 : Int32) &&& 31)) i = (decide (8 ≤ i) && bt x (i - 8)) := b_shl 8 (by omega) x hi
theorem b_shl16 (x : Int32) {i : Nat} (hi : i < 32) : bt (x <<< ((16 : Int32) &&& 31)) i = (decide (16 ≤ i) && bt x (i - 16)) := b_shl 16 (by omega) x hi
theorem b_shl24 (x : Int32) {i : Nat} (hi : i < 32) : bt (x <<< ((24 : Int32) &&& 31)) i = (decide (24 ≤ i) && bt x (i - 24)) := b_shl 24 (by omega) x hi
theorem b_sshr8 (x : Int32) {i : Nat} (hi : i < 32) : bt (x >>> ((8 : Int32) &&& 31)) i = if 8 + i < 32 then bt x (8 + i) else bt x 31 := b_sshr 8 (by omega) x hi
/-! MARKS: bit i of M c is set where a piece begins at cell 32 * c + i -/
def zu (x y : Int32) : Int32 := (x.toUInt32 >>> (y.toUInt32 &&& Int32.toUInt32 31)).toInt32
def zm (M : Nat → Int32) (j : Nat) : Bool := bt (M (j / 32)) (j % 32)
theorem zm_one : ∀ i, i < 32 → ∀ k, k < 32 → bt ((1 : Int32) <<< (nI i &&& 31)) k = decide (k = i) := by decide +kernel
theorem zm_oneX : ∀ i, i < 32 → ∀ k, k < 32 → bt (((1 : Int32) <<< (nI i &&& 31)) ^^^ (-1)) k = !decide (k = i) := by decide +kernel
theorem zm_hi : ∀ r, r < 32 → ∀ k, k < 32 → bt ((-1 : Int32) <<< (nI r &&& 31)) k = decide (r ≤ k) := by decide +kernel
theorem zm_lo : ∀ r, r < 32 → ∀ k, k < 32 → bt (zu (-1) (nI (31 - r))) k = decide (k ≤ r) := by decide +kernel
theorem zm_at (M : Nat → Int32) {c i : Nat} (hi : i < 32) : zm M (32 * c + i) = bt (M c) i := by
  unfold zm
  rw [show (32 * c + i) / 32 = c by omega, show (32 * c + i) % 32 = i by omega]
theorem zm_set {M : Nat → Int32} {c i : Nat} (hi : i < 32) (j : Nat) : zm (upd M c (M c ||| ((1 : Int32) <<< (nI i &&& 31)))) j = (zm M j || decide (j = 32 * c + i)) := by
  unfold zm
  by_cases h : j / 32 = c
  · rw [h, pk_us, b_or, zm_one i hi _ (Nat.mod_lt _ (by decide))]
    rw [show decide (j % 32 = i) = decide (j = 32 * c + i) from decide_eq_decide.mpr ⟨fun q => by omega, fun q => by omega⟩]
  · rw [pk_un h, show decide (j = 32 * c + i) = false from decide_eq_false (fun q => h (by omega)), Bool.or_false]
theorem zm_clr {M : Nat → Int32} {c i : Nat} (hi : i < 32) (j : Nat) : zm (upd M c (M c &&& (((1 : Int32) <<< (nI i &&& 31)) ^^^ (-1)))) j = (zm M j && !decide (j = 32 * c + i)) := by
  unfold zm
  by_cases h : j / 32 = c
  · rw [h, pk_us, b_and, zm_oneX i hi _ (Nat.mod_lt _ (by decide))]
    rw [show decide (j % 32 = i) = decide (j = 32 * c + i) from decide_eq_decide.mpr ⟨fun q => by omega, fun q => by omega⟩]
  · rw [pk_un h, show decide (j = 32 * c + i) = false from decide_eq_false (fun q => h (by omega)), Bool.not_false, Bool.and_true]
theorem z_some {x : Int32} (h : ¬ x = 0) : ∃ k, k < 32 ∧ bt x k = true := by
  refine Classical.byContradiction fun hn => h (b_ext fun i hi => ?_)
  rw [b_0]
  cases hb : bt x i
  · rfl
  · exact absurd ⟨i, hi, hb⟩ hn
theorem z_low {x : Int32} (h : ¬ x = 0) : ∃ t, t < 32 ∧ bt x t = true ∧ ∀ k, k < t → bt x k = false := by
  obtain ⟨k, ⟨hk, hb⟩, hmin⟩ := pk_least (fun k => k < 32 ∧ bt x k = true) (z_some h)
  refine ⟨k, hk, hb, fun j hj => ?_⟩
  cases hb2 : bt x j
  · rfl
  · exact absurd ⟨by omega, hb2⟩ (hmin j hj)
theorem z_top {x : Int32} (h : ¬ x = 0) : ∃ t, t < 32 ∧ bt x t = true ∧ ∀ k, t < k → k < 32 → bt x k = false := by
  obtain ⟨k0, hk0, hb0⟩ := z_some h
  obtain ⟨k, ⟨hk, hb⟩, hmin⟩ := pk_least (fun k => k < 32 ∧ bt x (31 - k) = true) ⟨31 - k0, by omega, by rw [show 31 - (31 - k0) = k0 by omega]; exact hb0⟩
  refine ⟨31 - k, by omega, hb, fun j hj hj2 => ?_⟩
  cases hb2 : bt x j
  · rfl
  · exact absurd ⟨by omega, by rw [show 31 - (31 - j) = j by omega]; exact hb2⟩ (hmin (31 - j) (by omega))
/-- an Int32 by its number -/
theorem z_num (x : Int32) : x = nI x.toBitVec.toNat := by
  apply Int32.toBitVec_inj.1
  show x.toBitVec = BitVec.ofNat 32 x.toBitVec.toNat
  simp
theorem z_tb (x : Int32) (k : Nat) : bt x k = x.toBitVec.toNat.testBit k := rfl
theorem z_ge {x : Int32} {t : Nat} (h : bt x t = true) : 2 ^ t ≤ x.toBitVec.toNat := Nat.ge_two_pow_of_testBit (by rw [← z_tb]; exact h)
theorem z_lt {x : Int32} {t : Nat} (h : ∀ k, t < k → k < 32 → bt x k = false) : x.toBitVec.toNat < 2 ^ (t + 1) := by
  refine Nat.lt_pow_two_of_testBit _ (fun i hi => ?_)
  rw [← z_tb]
  rcases Nat.lt_or_ge i 32 with q | q
  · exact h i (by omega) q
  · exact b_big q
/-- the low mask of a number whose lowest set bit is t -/
theorem z_mask {x : Int32} {t : Nat} (ht : t < 32) (h1 : bt x t = true) (h2 : ∀ k, k < t → bt x k = false) : (x ^^^ (-1)) &&& (x - 1) = nI (2 ^ t - 1) := by
  have hp := Nat.two_pow_pos t
  have hv : x.toBitVec.toNat % 2 ^ t = 0 := by
    apply Nat.eq_of_testBit_eq
    intro j
    rw [Nat.testBit_mod_two_pow, Nat.zero_testBit]
    by_cases a : j < t
    · rw [← z_tb, h2 j a, Bool.and_false]
    · rw [decide_eq_false a, Bool.false_and]
  have ho : x.toBitVec.toNat / 2 ^ t % 2 = 1 := by
    have := h1
    rw [z_tb, Nat.testBit_eq_decide_div_mod_eq] at this
    exact of_decide_eq_true this
  obtain ⟨q, hq⟩ : ∃ q, x.toBitVec.toNat / 2 ^ t = 2 * q + 1 := ⟨x.toBitVec.toNat / 2 ^ t / 2, by omega⟩
  have e1 : x.toBitVec.toNat = 2 ^ t * (2 * q + 1) + 0 := by
    have := Nat.div_add_mod x.toBitVec.toNat (2 ^ t)
    rw [hv, hq] at this
    exact this.symm
  have hlt := x.toBitVec.isLt
  have e3 : (x - 1).toBitVec.toNat = x.toBitVec.toNat - 1 := by
    have h0 : 1 ≤ x.toBitVec.toNat := by
      have := z_ge h1
      omega
    show (x.toBitVec - 1#32).toNat = _
    rw [BitVec.toNat_sub]
    show (2 ^ 32 - 1 + x.toBitVec.toNat) % 2 ^ 32 = _
    omega
  have e2 : x.toBitVec.toNat - 1 = 2 ^ t * (2 * q) + (2 ^ t - 1) := by
    rw [e1, Nat.mul_add]
    omega
  refine b_ext fun j hj => ?_
  rw [b_and, b_xor, b_m1 j hj, z_tb (x - 1), e3, e2, Nat.testBit_two_pow_mul_add _ (by omega), z_tb x, e1, Nat.testBit_two_pow_mul_add _ hp]
  have hr : bt (nI (2 ^ t - 1)) j = decide (j < t) := by
    have hs : 2 ^ t ≤ 2 ^ 31 := Nat.pow_le_pow_right (by decide) (by omega)
    rw [z_tb, pk_tn (by omega), Nat.testBit_two_pow_sub_one]
  rw [hr]
  by_cases a : j < t
  · simp [a]
  · rw [if_neg a, if_neg a, decide_eq_false a]
    cases hd : j - t with
    | zero => simp
    | succ d =>
      rw [Nat.testBit_succ, Nat.testBit_succ, show (2 * q + 1) / 2 = q by omega, show 2 * q / 2 = q by omega]
      cases q.testBit d <;> rfl
theorem z_p1 (t : Nat) : 1 ≤ 2 ^ t := Nat.two_pow_pos t
theorem z_lt31 {t v : Nat} (ht : t < 31) (h : v < 2 ^ (t + 1)) : v < 2147483648 := by
  have h1 : 2 ^ (t + 1) ≤ 2 ^ 31 := Nat.pow_le_pow_right (by decide) (by omega)
  have h2 : (2 : Nat) ^ 31 = 2147483648 := by decide
  omega
theorem z_lgu {a b v : Nat} (h1 : 2 ^ a ≤ v) (h2 : v < 2 ^ (a + 1)) (h3 : 2 ^ b ≤ v) (h4 : v < 2 ^ (b + 1)) : a = b := by
  have x1 : a < b + 1 := (Nat.pow_lt_pow_iff_right (a := 2) (by decide)).mp (Nat.lt_of_le_of_lt h1 h4)
  have x2 : b < a + 1 := (Nat.pow_lt_pow_iff_right (a := 2) (by decide)).mp (Nat.lt_of_le_of_lt h3 h2)
  omega
theorem z_leaf {t v s q : Nat} (hq : q = 2 ^ s) (h1 : 2 ^ t ≤ v) (h2 : v < 2 ^ (t + 1)) (h3 : q ≤ v) (h4 : v < q * 4) : t = s + v / q / 2 := by
  have e1 : 2 ^ (s + 1) = q * 2 := by rw [Nat.pow_succ, ← hq]
  have e2 : 2 ^ (s + 1 + 1) = q * 4 := by rw [Nat.pow_succ, e1]; omega
  have hp : 0 < q := by rw [hq]; exact Nat.two_pow_pos s
  rcases Nat.lt_or_ge v (q * 2) with z | z
  · have e3 : v / q = 1 := by
      apply Nat.div_eq_of_lt_le <;> omega
    rw [e3, z_lgu h1 h2 (b := s) (by omega) (by omega)]
    omega
  · have e3 : v / q = 2 ∨ v / q = 3 := by
      have a1 : 2 ≤ v / q := (Nat.le_div_iff_mul_le hp).mpr (by omega)
      have a2 : v / q < 4 := (Nat.div_lt_iff_lt_mul hp).mpr (by omega)
      omega
    have e4 := z_lgu h1 h2 (b := s + 1) (by omega) (by omega)
    rcases e3 with e3 | e3 <;> (rw [e3]; omega)
theorem z_leaf2 {t v s q : Nat} (hq : q = 2 ^ s) (h : v = 2 ^ t - 1) (h1 : q ≤ v) (h2 : v / q ≤ 4) : t = s + 1 + v / q / 2 := by
  have hp : 0 < q := by rw [hq]; exact Nat.two_pow_pos s
  have ht := Nat.two_pow_pos t
  have hst : s < t := (Nat.pow_lt_pow_iff_right (a := 2) (by decide)).mp (by omega)
  obtain ⟨d, rfl⟩ : ∃ d, t = s + 1 + d := ⟨t - (s + 1), by omega⟩
  have e0 : 2 ^ (s + 1 + d) = q * (2 * 2 ^ d) := by
    rw [hq, Nat.pow_add, Nat.pow_succ, Nat.mul_assoc]
  have hd := Nat.two_pow_pos d
  have e1 : v / q = 2 * 2 ^ d - 1 := by
    apply Nat.div_eq_of_lt_le
    · rw [h, e0, Nat.mul_comm, Nat.mul_sub, Nat.mul_one]; omega
    · rw [h, e0, show 2 * 2 ^ d - 1 + 1 = 2 * 2 ^ d by omega, Nat.mul_comm]
      have : 0 < 2 * 2 ^ d * q := Nat.mul_pos (by omega) hp
      omega
  match d, e1 with
  | 0, e1 => rw [e1]
  | 1, e1 => rw [e1]
  | d + 2, e1 =>
    exfalso
    have : 4 ≤ 2 ^ (d + 2) := by
      have := Nat.pow_le_pow_right (n := 2) (by decide) (show 2 ≤ d + 2 by omega)
      exact this
    omega
theorem z_lt32 {t v : Nat} (ht : t < 32) (h : v = 2 ^ t - 1) : v < 2147483648 := by
  have h1 : 2 ^ t ≤ 2 ^ 31 := Nat.pow_le_pow_right (by decide) (by omega)
  have h2 : (2 : Nat) ^ 31 = 2147483648 := by decide
  have h3 := Nat.two_pow_pos t
  omega
theorem z_t0 {t v : Nat} (h : v = 2 ^ t - 1) (hv : v = 0) : t = 0 := by
  rcases Nat.eq_zero_or_pos t with q | q
  · exact q
  · have := Nat.pow_le_pow_right (n := 2) (by decide) (show 1 ≤ t by omega)
    omega
end
section
/-! HOW MANY BITS: Integer.bitCount's number is the count of the set bits -/
theorem z_and (a b : Nat) : nI a &&& nI b = nI (a &&& b) := by
  apply Int32.toBitVec_inj.1
  show BitVec.ofNat 32 a &&& BitVec.ofNat 32 b = BitVec.ofNat 32 (a &&& b)
  apply BitVec.eq_of_getLsbD_eq
  intro i hi
  simp [hi]
theorem zA (x m : Nat) : x &&& m = (x % 256 &&& m % 256) + 256 * (x / 256 &&& m / 256) := by
  have h1 : (x &&& m) % 256 = (x % 256 &&& m % 256) := Nat.and_mod_two_pow (n := 8)
  have h2 : (x &&& m) / 256 = (x / 256 &&& m / 256) := Nat.and_div_two_pow (n := 8)
  rw [← h1, ← h2]
  omega
def z4 (a b c d : Nat) : Nat := a + 256 * (b + 256 * (c + 256 * d))
theorem zA4 {a b c d k0 k1 k2 k3 : Nat} (ha : a < 256) (hb : b < 256) (hc : c < 256) (h0 : k0 < 256) (h1 : k1 < 256) (h2 : k2 < 256) : z4 a b c d &&& z4 k0 k1 k2 k3 = z4 (a &&& k0) (b &&& k1) (c &&& k2) (d &&& k3) := by
  have s1 := zA (z4 a b c d) (z4 k0 k1 k2 k3)
  rw [show z4 a b c d % 256 = a by unfold z4; omega, show z4 k0 k1 k2 k3 % 256 = k0 by unfold z4; omega, show z4 a b c d / 256 = b + 256 * (c + 256 * d) by unfold z4; omega, show z4 k0 k1 k2 k3 / 256 = k1 + 256 * (k2 + 256 * k3) by unfold z4; omega] at s1
  have s2 := zA (b + 256 * (c + 256 * d)) (k1 + 256 * (k2 + 256 * k3))
  rw [show (b + 256 * (c + 256 * d)) % 256 = b by omega, show (k1 + 256 * (k2 + 256 * k3)) % 256 = k1 by omega, show (b + 256 * (c + 256 * d)) / 256 = c + 256 * d by omega, show (k1 + 256 * (k2 + 256 * k3)) / 256 = k2 + 256 * k3 by omega] at s2
  have s3 := zA (c + 256 * d) (k2 + 256 * k3)
  rw [show (c + 256 * d) % 256 = c by omega, show (k2 + 256 * k3) % 256 = k2 by omega, show (c + 256 * d) / 256 = d by omega, show (k2 + 256 * k3) / 256 = k3 by omega] at s3
  rw [s1, s2, s3]
  rfl
def zg (a : Nat) : Nat := (a / 2) &&& 85
def zp1 (a : Nat) : Nat := a - zg a
def zp2 (p : Nat) : Nat := (p &&& 51) + ((p / 4) &&& 51)
def zpc (a : Nat) : Nat := zc (fun j => a.testBit j) 8
theorem zD1 : ∀ a, a < 256 → ∀ e, e < 2 → (a / 2 + 128 * e) &&& 85 = zg a := by decide +kernel
theorem zD1b : ∀ a, a < 256 → zg a ≤ a ∧ zp1 a < 256 := by decide +kernel
theorem zD2 : ∀ p, p < 256 → ∀ e, e < 4 → (p / 4 + 64 * e) &&& 51 = (p / 4) &&& 51 := by decide +kernel
theorem zD3 : ∀ a, a < 256 → zp2 (zp1 a) % 16 < 5 ∧ zp2 (zp1 a) < 69 ∧ zpc a < 9 := by decide +kernel
theorem zD4 : ∀ a, a < 256 → ∀ e, e < 5 → (zp2 (zp1 a) + zp2 (zp1 a) / 16 + 16 * e) &&& 15 = zpc a := by decide +kernel
theorem zS1 {a b c d : Nat} (ha : a < 256) (hb : b < 256) (hc : c < 256) (hd : d < 256) : nI (z4 a b c d) - (zu (nI (z4 a b c d)) 1 &&& 1431655765) = nI (z4 (zp1 a) (zp1 b) (zp1 c) (zp1 d)) := by
  have hv : z4 a b c d < 2 ^ 32 := by unfold z4; omega
  have e1 : zu (nI (z4 a b c d)) 1 = nI (z4 a b c d / 2) := pk_ushrN hv 1 1 (by decide)
  have e2 : z4 a b c d / 2 = z4 (a / 2 + 128 * (b % 2)) (b / 2 + 128 * (c % 2)) (c / 2 + 128 * (d % 2)) (d / 2 + 128 * 0) := by unfold z4; omega
  have e3 : (1431655765 : Int32) = nI (z4 85 85 85 85) := by decide
  rw [e1, e2, e3, z_and, zA4 (by omega) (by omega) (by omega) (by decide) (by decide) (by decide), zD1 a ha _ (by omega), zD1 b hb _ (by omega), zD1 c hc _ (by omega), zD1 d hd _ (by omega)]
  have ga := (zD1b a ha).1
  have gb := (zD1b b hb).1
  have gc := (zD1b c hc).1
  have gd := (zD1b d hd).1
  rw [pk_sub (by unfold z4; omega)]
  congr 1
  unfold zp1 z4
  omega
theorem zS2 {a b c d : Nat} (ha : a < 256) (hb : b < 256) (hc : c < 256) (hd : d < 256) : (nI (z4 a b c d) &&& 858993459) + (zu (nI (z4 a b c d)) 2 &&& 858993459) = nI (z4 (zp2 a) (zp2 b) (zp2 c) (zp2 d)) := by
  have hv : z4 a b c d < 2 ^ 32 := by unfold z4; omega
  have e1 : zu (nI (z4 a b c d)) 2 = nI (z4 a b c d / 4) := pk_ushrN hv 2 2 (by decide)
  have e2 : z4 a b c d / 4 = z4 (a / 4 + 64 * (b % 4)) (b / 4 + 64 * (c % 4)) (c / 4 + 64 * (d % 4)) (d / 4 + 64 * 0) := by unfold z4; omega
  have e3 : (858993459 : Int32) = nI (z4 51 51 51 51) := by decide
  rw [e1, e2, e3, z_and, z_and, zA4 ha hb hc (by decide) (by decide) (by decide), zA4 (by omega) (by omega) (by omega) (by decide) (by decide) (by decide), zD2 a ha _ (by omega), zD2 b hb _ (by omega), zD2 c hc _ (by omega), zD2 d hd _ (by omega), nI_add]
  congr 1
  unfold zp2 z4
  omega
theorem zS3b {u v w x a b c d : Nat} (hu : u < 69) (hv : v < 69) (hw : w < 69) (hx : x < 69) (gv : v % 16 < 5) (gw : w % 16 < 5) (gx : x % 16 < 5) (a4 : (u + u / 16 + 16 * (v % 16)) &&& 15 = a) (b4 : (v + v / 16 + 16 * (w % 16)) &&& 15 = b) (c4 : (w + w / 16 + 16 * (x % 16)) &&& 15 = c) (d4 : (x + x / 16 + 16 * 0) &&& 15 = d) : (nI (z4 u v w x) + zu (nI (z4 u v w x)) 4) &&& 252645135 = nI (z4 a b c d) := by
  have hv2 : z4 u v w x < 2 ^ 32 := by unfold z4; omega
  have e1 : zu (nI (z4 u v w x)) 4 = nI (z4 u v w x / 16) := pk_ushrN hv2 4 4 (by decide)
  have e2 : z4 u v w x + z4 u v w x / 16 = z4 (u + u / 16 + 16 * (v % 16)) (v + v / 16 + 16 * (w % 16)) (w + w / 16 + 16 * (x % 16)) (x + x / 16 + 16 * 0) := by unfold z4; omega
  have e3 : (252645135 : Int32) = nI (z4 15 15 15 15) := by decide
  rw [e1, nI_add, e2, e3, z_and, zA4 (by omega) (by omega) (by omega) (by decide) (by decide) (by decide), a4, b4, c4, d4]
theorem zS3 {a b c d : Nat} (ha : a < 256) (hb : b < 256) (hc : c < 256) (hd : d < 256) : (nI (z4 (zp2 (zp1 a)) (zp2 (zp1 b)) (zp2 (zp1 c)) (zp2 (zp1 d))) + zu (nI (z4 (zp2 (zp1 a)) (zp2 (zp1 b)) (zp2 (zp1 c)) (zp2 (zp1 d)))) 4) &&& 252645135 = nI (z4 (zpc a) (zpc b) (zpc c) (zpc d)) :=
  zS3b (zD3 a ha).2.1 (zD3 b hb).2.1 (zD3 c hc).2.1 (zD3 d hd).2.1 (zD3 b hb).1 (zD3 c hc).1 (zD3 d hd).1 (zD4 a ha _ (zD3 b hb).1) (zD4 b hb _ (zD3 c hc).1) (zD4 c hc _ (zD3 d hd).1) (zD4 d hd 0 (by decide))
theorem zS4 {a b c d : Nat} (ha : a < 9) (hb : b < 9) (hc : c < 9) (hd : d < 9) : (nI (z4 a b c d) + zu (nI (z4 a b c d)) 8) + zu (nI (z4 a b c d) + zu (nI (z4 a b c d)) 8) 16 &&& 63 = nI (a + b + c + d) := by
  have hv : z4 a b c d < 2 ^ 28 := by unfold z4; omega
  have e1 : zu (nI (z4 a b c d)) 8 = nI (z4 a b c d / 256) := pk_ushrN (by omega) 8 8 (by decide)
  rw [e1, nI_add]
  have e2 : zu (nI (z4 a b c d + z4 a b c d / 256)) 16 = nI ((z4 a b c d + z4 a b c d / 256) / 65536) := pk_ushrN (by omega) 16 16 (by decide)
  rw [e2, nI_add, pk_andN (by omega) 6 (by decide)]
  congr 1
  have d1 : z4 a b c d / 256 = b + 256 * (c + 256 * d) := by unfold z4; omega
  rw [d1]
  have d2 : (z4 a b c d + (b + 256 * (c + 256 * d))) / 65536 = (c + d) + 256 * d := by unfold z4; omega
  rw [d2]
  have d3 : z4 a b c d + (b + 256 * (c + 256 * d)) + ((c + d) + 256 * d) = (a + b + c + d) + 64 * (4 * (b + c + d) + 1024 * (c + d) + 262144 * d) := by unfold z4; omega
  rw [d3]
  omega
theorem zc_add (B : Nat → Bool) (k n : Nat) : zc B (k + n) = zc B k + zc (fun j => B (k + j)) n := by
  induction n with
  | zero => rfl
  | succ n ih =>
    rw [show k + (n + 1) = (k + n) + 1 by omega, zc_s, zc_s, ih]
    omega
def zP (x : Int32) : Int32 :=
  let i1 := x - (zu x 1 &&& 1431655765)
  let i2 := (i1 &&& 858993459) + (zu i1 2 &&& 858993459)
  let i3 := (i2 + zu i2 4) &&& 252645135
  let i4 := i3 + zu i3 8
  let i5 := i4 + zu i4 16
  i5 &&& 63
theorem z_pop4 {a b c d : Nat} (ha : a < 256) (hb : b < 256) (hc : c < 256) (hd : d < 256) : zP (nI (z4 a b c d)) = nI (zpc a + zpc b + zpc c + zpc d) := by
  unfold zP
  dsimp only
  rw [zS1 ha hb hc hd, zS2 (zD1b a ha).2 (zD1b b hb).2 (zD1b c hc).2 (zD1b d hd).2, zS3 ha hb hc hd, zS4 (zD3 a ha).2.2 (zD3 b hb).2.2 (zD3 c hc).2.2 (zD3 d hd).2.2]
theorem z_32 (B : Nat → Bool) : zc B 32 = zc B 8 + zc (fun j => B (8 + j)) 8 + zc (fun j => B (16 + j)) 8 + zc (fun j => B (24 + j)) 8 := by
  have h1 := zc_add B 24 8
  have h2 := zc_add B 16 8
  have h3 := zc_add B 8 8
  rw [show (24 + 8 : Nat) = 32 from rfl] at h1
  rw [show (16 + 8 : Nat) = 24 from rfl] at h2
  rw [show (8 + 8 : Nat) = 16 from rfl] at h3
  rw [h1, h2, h3]
theorem z_popc (x : Int32) : zc (bt x) 32 = zpc (x.toBitVec.toNat % 256) + zpc (x.toBitVec.toNat / 256 % 256) + zpc (x.toBitVec.toNat / 65536 % 256) + zpc (x.toBitVec.toNat / 16777216) := by
  rw [z_32]
  have e0 : zc (bt x) 8 = zpc (x.toBitVec.toNat % 256) := zc_congr (fun j hj => by
    show x.toBitVec.toNat.testBit j = (x.toBitVec.toNat % 2 ^ 8).testBit j
    rw [Nat.testBit_mod_two_pow, decide_eq_true hj, Bool.true_and])
  have e1 : zc (fun j => bt x (8 + j)) 8 = zpc (x.toBitVec.toNat / 256 % 256) := zc_congr (fun j hj => by
    show x.toBitVec.toNat.testBit (8 + j) = (x.toBitVec.toNat / 2 ^ 8 % 2 ^ 8).testBit j
    rw [Nat.testBit_mod_two_pow, decide_eq_true hj, Bool.true_and, Nat.testBit_div_two_pow, Nat.add_comm])
  have e2 : zc (fun j => bt x (16 + j)) 8 = zpc (x.toBitVec.toNat / 65536 % 256) := zc_congr (fun j hj => by
    show x.toBitVec.toNat.testBit (16 + j) = (x.toBitVec.toNat / 2 ^ 16 % 2 ^ 8).testBit j
    rw [Nat.testBit_mod_two_pow, decide_eq_true hj, Bool.true_and, Nat.testBit_div_two_pow, Nat.add_comm])
  have e3 : zc (fun j => bt x (24 + j)) 8 = zpc (x.toBitVec.toNat / 16777216) := zc_congr (fun j hj => by
    show x.toBitVec.toNat.testBit (24 + j) = (x.toBitVec.toNat / 2 ^ 24).testBit j
    rw [Nat.testBit_div_two_pow, Nat.add_comm])
  rw [e0, e1, e2, e3]
theorem z_pop (x : Int32) : zP x = nI (zc (bt x) 32) := by
  have hlt : x.toBitVec.toNat < 2 ^ 32 := x.toBitVec.isLt
  have hx : nI (z4 (x.toBitVec.toNat % 256) (x.toBitVec.toNat / 256 % 256) (x.toBitVec.toNat / 65536 % 256) (x.toBitVec.toNat / 16777216)) = x := by
    rw [show z4 (x.toBitVec.toNat % 256) (x.toBitVec.toNat / 256 % 256) (x.toBitVec.toNat / 65536 % 256) (x.toBitVec.toNat / 16777216) = x.toBitVec.toNat by unfold z4; omega]
    exact (z_num x).symm
  have h := z_pop4 (a := x.toBitVec.toNat % 256) (b := x.toBitVec.toNat / 256 % 256) (c := x.toBitVec.toNat / 65536 % 256) (d := x.toBitVec.toNat / 16777216) (by omega) (by omega) (by omega) (by omega)
  rw [hx] at h
  rw [h, z_popc]
theorem z_nlz0 {x : Int32} {t v : Nat} (ht : t < 32) (ex : x = nI v) (a1 : 2 ^ t ≤ v) (a2 : v < 2 ^ (t + 1)) (c : ¬ 0 < x) : (0 : Int32) = nI (31 - t) := by
  rcases Nat.lt_or_ge t 31 with q | q
  · refine absurd ?_ c
    rw [ex, ← nI_0]
    have p1 := z_p1 t
    have p2 := z_lt31 q a2
    exact nI_lt (by omega) (by omega)
  · rw [show 31 - t = 0 by omega]
    exact nI_0.symm
theorem z_nlz1 {x : Int32} {t v : Nat} (ht : t < 32) (ex : x = nI v) (a1 : 2 ^ t ≤ v) (c : 0 < x) (hv : v < 2 ^ 32) : t < 31 := by
  rcases Nat.lt_or_ge t 31 with q | q
  · exact q
  · have e : t = 31 := by omega
    subst e
    exfalso
    rw [Int32.lt_iff_toInt_lt, ex, Int32.toInt_zero] at c
    have h : (nI v).toInt = (v : Int) - 4294967296 := by
      show (BitVec.ofNat 32 v).toInt = _
      rw [BitVec.toInt_eq_toNat_cond, BitVec.toNat_ofNat, Nat.mod_eq_of_lt hv, if_neg (by omega)]
      rfl
    omega
theorem z_ntz0 {t v : Nat} (h1 : t = 0) (h2 : v = 0) : nI v &&& nI 32 = nI t := by
  subst h1 h2
  decide
end
section
/-! THE CLASS'S STATE: n cells, p pieces, the marks M, the start table S -/
def zCI (n p : Nat) (M S : Nat → Int32) : Prop := 1 ≤ n ∧ n ≤ 16384 ∧ zm M 0 = true ∧ (∀ j, n ≤ j → j < 16384 → zm M j = false) ∧ p = zc (zm M) n ∧ ∀ c, 32 * c < n → S c = nI (zb (zm M) (32 * c))
theorem z_beg0 {M : Nat → Int32} {c : Nat} (h0 : zm M 0 = true) (hf : M (c / 32) &&& zu (-1) (nI (31 - c % 32)) = 0) : zb (zm M) c = zb (zm M) (32 * (c / 32)) := by
  have hb := zb_le (zm M) (32 * (c / 32))
  refine zb_uniq (by omega) (Or.inr (zb_on h0 _)) (fun j h1 h2 => ?_)
  rcases Nat.lt_or_ge (32 * (c / 32)) j with q | q
  · have e : j = 32 * (c / 32) + j % 32 := by omega
    have hj : j % 32 < 32 := Nat.mod_lt _ (by decide)
    have z : bt (M (c / 32) &&& zu (-1) (nI (31 - c % 32))) (j % 32) = false := by rw [hf, b_0]
    rw [b_and, zm_lo (c % 32) (Nat.mod_lt _ (by decide)) _ hj, decide_eq_true (by omega), Bool.and_true] at z
    rw [e, zm_at M hj]
    exact z
  · exact zb_off _ j h1 q
theorem z_beg1 {M : Nat → Int32} {c t : Nat} (ht : t < 32) (h1 : bt (M (c / 32) &&& zu (-1) (nI (31 - c % 32))) t = true) (h2 : ∀ k, t < k → k < 32 → bt (M (c / 32) &&& zu (-1) (nI (31 - c % 32))) k = false) : zb (zm M) c = 32 * (c / 32) + t := by
  rw [b_and, zm_lo (c % 32) (Nat.mod_lt _ (by decide)) _ ht, Bool.and_eq_true, decide_eq_true_eq] at h1
  refine zb_uniq (by omega) (Or.inr (by rw [zm_at M ht]; exact h1.1)) (fun j h3 h4 => ?_)
  have e : j = 32 * (c / 32) + j % 32 := by omega
  have hj : j % 32 < 32 := Nat.mod_lt _ (by decide)
  have z := h2 (j % 32) (by omega) hj
  rw [b_and, zm_lo (c % 32) (Nat.mod_lt _ (by decide)) _ hj, decide_eq_true (by omega), Bool.and_true] at z
  rw [e, zm_at M hj]
  exact z
/-- the search for the next begin: nothing from k up to lo; w marks what of this card is still to be seen -/
def zI (M : Nat → Int32) (k card : Nat) (w : Int32) : Prop := ∃ lo, k ≤ lo ∧ 32 * card ≤ lo ∧ lo ≤ 32 * card + 32 ∧ (∀ j, k ≤ j → j < lo → zm M j = false) ∧ ∀ i, i < 32 → bt w i = decide (lo ≤ 32 * card + i)
theorem zI_0 (M : Nat → Int32) (k : Nat) : zI M k (k / 32) ((-1 : Int32) <<< (nI (k % 32) &&& 31)) := by
  refine ⟨k, Nat.le_refl _, by omega, by omega, fun j h1 h2 => absurd h1 (by omega), fun i hi => ?_⟩
  rw [zm_hi (k % 32) (Nat.mod_lt _ (by decide)) i hi]
  exact decide_eq_decide.mpr ⟨fun q => by omega, fun q => by omega⟩
theorem zI_cell {M : Nat → Int32} {card lo : Nat} {w : Int32} (h4 : ∀ i, i < 32 → bt w i = decide (lo ≤ 32 * card + i)) {j : Nat} (h5 : lo ≤ j) (h6 : 32 * card ≤ j) (h7 : j < 32 * card + 32) : zm M j = bt (M card &&& w) (j - 32 * card) := by
  have e : j = 32 * card + (j - 32 * card) := by omega
  have hj : j - 32 * card < 32 := by omega
  rw [b_and, h4 _ hj, decide_eq_true (by omega), Bool.and_true]
  conv => lhs; rw [e]
  rw [zm_at M hj]
theorem zI_s {M : Nat → Int32} {k card : Nat} {w : Int32} (h : zI M k card w) (hf : M card &&& w = 0) : zI M k (card + 1) (-1) := by
  obtain ⟨lo, h1, h2, h2b, h3, h4⟩ := h
  refine ⟨32 * (card + 1), by omega, by omega, by omega, fun j h5 h6 => ?_, fun i hi => ?_⟩
  · rcases Nat.lt_or_ge j lo with z | z
    · exact h3 j h5 z
    · rw [zI_cell (M := M) h4 z (by omega) (by omega), hf, b_0]
  · rw [b_m1 i hi, decide_eq_true (by omega)]
theorem zI_hit {M : Nat → Int32} {n k card t : Nat} {w : Int32} (h : zI M k card w) (hk : k ≤ n) (hc : card < 512) (hM : ∀ j, n ≤ j → j < 16384 → zm M j = false) (ht : t < 32) (h8 : bt (M card &&& w) t = true) (h9 : ∀ i, i < t → bt (M card &&& w) i = false) : zn (zm M) n k = 32 * card + t ∧ 32 * card + t < n := by
  obtain ⟨lo, h1, h2, h2b, h3, h4⟩ := h
  have hw : lo ≤ 32 * card + t := by
    have z := h8
    rw [b_and, h4 t ht, Bool.and_eq_true, decide_eq_true_eq] at z
    exact z.2
  have hz : zm M (32 * card + t) = true := by
    rw [zI_cell (M := M) h4 hw (by omega) (by omega), show 32 * card + t - 32 * card = t by omega]
    exact h8
  have hn : 32 * card + t < n := by
    rcases Nat.lt_or_ge (32 * card + t) n with q | q
    · exact q
    · rw [hM _ q (by omega)] at hz; cases hz
  refine ⟨zn_uniq (by omega) (by omega) (Or.inr hz) (fun j h5 h6 => ?_), hn⟩
  rcases Nat.lt_or_ge j lo with z | z
  · exact h3 j h5 z
  · rw [zI_cell (M := M) h4 z (by omega) (by omega)]
    exact h9 _ (by omega)
theorem zI_end {M : Nat → Int32} {n k card : Nat} {w : Int32} (h : zI M k card w) (hk : k ≤ n) (hc : (n + 31) / 32 ≤ card) : zn (zm M) n k = n := by
  obtain ⟨lo, h1, h2, h2b, h3, h4⟩ := h
  exact zn_uniq hk (Nat.le_refl _) (Or.inl rfl) (fun j h5 h6 => h3 j h5 (by omega))
/-- what tellStarts leaves -/
def zT (S : Nat → Int32) (a b : Nat) (S' : Nat → Int32) : Prop := ∀ j, j < 512 → S' j = if a ≤ 32 * j ∧ 32 * j < b then nI a else S j
theorem zT_in {S S' : Nat → Int32} {a b j : Nat} (h : zT S a b S') (hj : j < 512) (h1 : a ≤ 32 * j) (h2 : 32 * j < b) : S' j = nI a := by rw [h j hj, if_pos ⟨h1, h2⟩]
theorem zT_out {S S' : Nat → Int32} {a b j : Nat} (h : zT S a b S') (hj : j < 512) (h1 : 32 * j < a ∨ b ≤ 32 * j) : S' j = S j := by rw [h j hj, if_neg (by omega)]
/-- starts behind a change: a begin at a, none up to b, where one begins or the row ends; ahead of a and from b on as before -/
theorem z_starts {n p a b : Nat} {M S M' S' : Nat → Int32} (h : zCI n p M S) (hab : a < b) (hbn : b ≤ n) (ha : zm M' a = true) (hno : ∀ j, a < j → j < b → zm M' j = false) (hb : b = n ∨ (zm M b = true)) (hlo : ∀ j, j < a → zm M' j = zm M j) (hhi : ∀ j, b ≤ j → j < 16384 → zm M' j = zm M j) (hT : zT S a b S') : ∀ c, 32 * c < n → S' c = nI (zb (zm M') (32 * c)) := by
  obtain ⟨i1, i2, i3, i4, i5, i6⟩ := h
  intro c hc
  rcases Nat.lt_or_ge (32 * c) a with q | q
  · rw [zT_out hT (by omega) (Or.inl q), i6 c hc, zb_congr (B := zm M') (C := zm M) (fun j hj => hlo j (by omega))]
  · rcases Nat.lt_or_ge (32 * c) b with z | z
    · rw [zT_in hT (by omega) q z, zb_uniq q (Or.inr ha) (fun j h1 h2 => hno j h1 (by omega))]
    · rw [zT_out hT (by omega) (Or.inr z), i6 c hc]
      have hzb : zm M b = true := by
        rcases hb with hb | hb
        · omega
        · exact hb
      have hge : b ≤ zb (zm M) (32 * c) := by
        rcases Nat.lt_or_ge (zb (zm M) (32 * c)) b with w | w
        · rw [zb_off (B := zm M) (32 * c) b w z] at hzb; cases hzb
        · exact w
      have hle := zb_le (zm M) (32 * c)
      congr 1
      refine (zb_uniq hle (Or.inr ?_) (fun j h1 h2 => ?_)).symm
      · rw [hhi _ hge (by omega)]
        exact zb_on i3 _
      · rw [hhi j (by omega) (by omega)]
        exact zb_off _ j h1 h2
/-- a cut at c, where none begins -/
theorem z_cut {n p c : Nat} {M S M' S' : Nat → Int32} (h : zCI n p M S) (hc : c < n) (hz : zb (zm M) c ≠ c) (hM : ∀ j, zm M' j = (zm M j || decide (j = c))) (hT : zT S c (zn (zm M') n (c + 1)) S') : zCI n (p + 1) M' S' := by
  have hs := h
  obtain ⟨i1, i2, i3, i4, i5, i6⟩ := h
  have hoff : zm M c = false := by
    cases hb : zm M c
    · rfl
    · exact absurd (zb_uniq (Nat.le_refl c) (Or.inr hb) (fun j h1 h2 => absurd h1 (by omega))) hz
  have hon : zm M' c = true := by rw [hM, decide_eq_true rfl, Bool.or_true]
  have hne : ∀ j, j ≠ c → zm M' j = zm M j := fun j hj => by rw [hM, decide_eq_false hj, Bool.or_false]
  have g1 := zn_ge (zm M') n (c + 1)
  have g2 : zn (zm M') n (c + 1) ≤ n := zn_le (by omega)
  refine ⟨i1, i2, by rw [hM, i3, Bool.true_or], fun j h1 h2 => by rw [hne j (by omega)]; exact i4 j h1 h2, ?_, ?_⟩
  · rw [i5]
    exact (zc_set hc hoff hon (fun j _ hj => hne j hj)).symm
  · refine z_starts hs (by omega) g2 hon (fun j h1 h2 => zn_off j (by omega) h2) ?_ (fun j hj => hne j (by omega)) (fun j hj _ => hne j (by omega)) hT
    rcases Nat.lt_or_ge (zn (zm M') n (c + 1)) n with q | q
    · have := zn_on q
      rw [hne _ (by omega)] at this
      exact Or.inr this
    · exact Or.inl (by omega)
/-- what merge leaves: the begins between a and b are gone -/
def zG (M M' : Nat → Int32) (a b : Nat) : Prop := ∀ j, j < 16384 → zm M' j = (zm M j && !decide (a < j ∧ j < b))
theorem zG_in {M M' : Nat → Int32} {a b j : Nat} (h : zG M M' a b) (hj : j < 16384) (h1 : a < j) (h2 : j < b) : zm M' j = false := by rw [h j hj, decide_eq_true ⟨h1, h2⟩, Bool.not_true, Bool.and_false]
theorem zG_out {M M' : Nat → Int32} {a b j : Nat} (h : zG M M' a b) (hj : j < 16384) (h1 : j ≤ a ∨ b ≤ j) : zm M' j = zm M j := by rw [h j hj, decide_eq_false (by omega), Bool.not_false, Bool.and_true]
theorem z_merge {n p a b : Nat} {M S M' S' : Nat → Int32} (h : zCI n p M S) (hab : a < b) (hbn : b ≤ n) (ha : zm M a = true) (hb : b = n ∨ zm M b = true) (hG : zG M M' a b) (hT : zT S a b S') : zCI n (zc (zm M') n) M' S' := by
  have hs := h
  obtain ⟨i1, i2, i3, i4, i5, i6⟩ := h
  refine ⟨i1, i2, ?_, ?_, rfl, ?_⟩
  · rw [zG_out hG (by omega) (Or.inl (by omega))]; exact i3
  · intro j h1 h2
    rw [zG_out hG h2 (Or.inr (by omega))]
    exact i4 j h1 h2
  · exact z_starts hs hab hbn (by rw [zG_out hG (by omega) (Or.inl (Nat.le_refl _))]; exact ha) (fun j h1 h2 => zG_in hG (by omega) h1 h2) hb (fun j hj => zG_out hG (by omega) (Or.inl (by omega))) (fun j h1 h2 => zG_out hG h2 (Or.inr h1)) hT
/-- merge's loop: up to e all is cleared -/
theorem zG_0 {M : Nat → Int32} {n a : Nat} (hn : n ≤ 16384) (ha : a < n) (h4 : ∀ j, n ≤ j → j < 16384 → zm M j = false) : zG M M a (zn (zm M) n (a + 1)) := by
  intro j hj
  by_cases q : a < j ∧ j < zn (zm M) n (a + 1)
  · rw [decide_eq_true q, Bool.not_true, Bool.and_false]
    exact zn_off j (by omega) q.2
  · rw [decide_eq_false q, Bool.not_false, Bool.and_true]
theorem zG_s {M M1 M2 : Nat → Int32} {n a e : Nat} (hn : n ≤ 16384) (hG : zG M M1 a e) (hae : a < e) (hen : e < n) (hM : ∀ j, zm M2 j = (zm M1 j && !decide (j = e))) : zG M M2 a (zn (zm M2) n (e + 1)) := by
  intro j hj
  have g1 := zn_ge (zm M2) n (e + 1)
  by_cases q : a < j ∧ j < zn (zm M2) n (e + 1)
  · rw [decide_eq_true q, Bool.not_true, Bool.and_false]
    rcases Nat.lt_trichotomy j e with z | z | z
    · rw [hM, zG_in hG hj q.1 z, Bool.false_and]
    · rw [hM, decide_eq_true z, Bool.not_true, Bool.and_false]
    · exact zn_off j (by omega) q.2
  · rw [decide_eq_false q, Bool.not_false, Bool.and_true, hM, decide_eq_false (by omega), Bool.not_false, Bool.and_true]
    exact zG_out hG hj (by omega)
theorem zG_next {M M1 M2 : Nat → Int32} {n a b e : Nat} (hn : n ≤ 16384) (hG : zG M M1 a e) (hae : a < e) (heb : e < b) (hbn : b ≤ n) (hb : b = n ∨ zm M b = true) (hM : ∀ j, zm M2 j = (zm M1 j && !decide (j = e))) : zn (zm M2) n (e + 1) ≤ b := by
  rcases Nat.lt_or_ge b (zn (zm M2) n (e + 1)) with q | q
  · have g2 : zn (zm M2) n (e + 1) ≤ n := zn_le (by omega)
    have z := zn_off (B := zm M2) (n := n) (k := e + 1) b (by omega) q
    rw [hM, decide_eq_false (by omega), Bool.not_false, Bool.and_true, zG_out hG (by omega) (Or.inr (by omega))] at z
    rcases hb with hb | hb
    · omega
    · rw [z] at hb; cases hb
  · exact q
theorem z_nxo {B : Nat → Bool} {n k : Nat} (h : k ≤ n) : zn B n k = n ∨ B (zn B n k) = true := by
  rcases Nat.lt_or_ge (zn B n k) n with q | q
  · exact Or.inr (zn_on q)
  · exact Or.inl (by have := zn_le (B := B) h; omega)
theorem z_nxb {B : Nat → Bool} {n a b : Nat} (h1 : a < b) (h2 : b ≤ n) (h3 : b = n ∨ B b = true) : zn B n (a + 1) ≤ b := by
  have g := zn_le (B := B) (n := n) (k := a + 1) (by omega)
  rcases Nat.lt_or_ge b (zn B n (a + 1)) with q | q
  · have z := zn_off (B := B) (n := n) (k := a + 1) b (by omega) q
    rcases h3 with h3 | h3
    · omega
    · rw [z] at h3; cases h3
  · exact q
theorem zc_0 {B : Nat → Bool} {a b : Nat} (hab : a ≤ b) (h : ∀ j, a ≤ j → j < b → B j = false) : zc B b = zc B a := by
  induction b with
  | zero => have e : a = 0 := by omega
            rw [e]
  | succ b ih =>
    rcases Nat.lt_or_ge b a with q | q
    · have e : a = b + 1 := by omega
      rw [e]
    · rw [zc_s, h b q (by omega), ih q (fun j h1 h2 => h j h1 (by omega))]
      simp
theorem zc_next {B : Nat → Bool} {n k : Nat} (h : B k = true) (hk : k < n) : zc B (zn B n (k + 1)) = zc B k + 1 := by
  rw [zc_0 (zn_ge B n (k + 1)) (fun j h1 h2 => zn_off j h1 h2), zc_s, if_pos h]
theorem z_lay {k : Nat} {M1 S1 : Nat → Int32} (h1 : 1 ≤ k) (h2 : k ≤ 16384) (hM : ∀ j, j < 512 → M1 j = nI 0) (hS : ∀ j, j < 512 → S1 j = nI 0) : zCI k 1 (upd M1 0 (nI 1)) S1 ∧ ∀ j, j < 16384 → zm (upd M1 0 (nI 1)) j = decide (j = 0) := by
  have key : ∀ j, j < 16384 → zm (upd M1 0 (nI 1)) j = decide (j = 0) := by
    intro j hj
    unfold zm
    by_cases q : j / 32 = 0
    · rw [q, pk_us]
      have e : j % 32 = j := by omega
      rw [e]
      exact (by decide +kernel : ∀ i, i < 32 → bt (nI 1) i = decide (i = 0)) j (by omega)
    · rw [pk_un q, hM _ (by omega), decide_eq_false (by omega)]
      exact b_0 _
  refine ⟨⟨h1, h2, key 0 (by decide), fun j a b => by rw [key j b, decide_eq_false (by omega)], ?_, fun c hc => ?_⟩, key⟩
  · rw [zc_0 (B := zm (upd M1 0 (nI 1))) (a := 1) h1 (fun j a b => by rw [key j (by omega), decide_eq_false (by omega)]), zc_s, if_pos (show zm (upd M1 0 (nI 1)) 0 = true from key 0 (by decide))]
    rfl
  · rw [hS c (by omega), zb_uniq (Nat.zero_le _) (Or.inl rfl) (fun j a b => by rw [key j (by omega), decide_eq_false (by omega)])]
/-- the sizes of the pieces from k on, folded -/
def zF (g : Nat → Nat → Nat) (B : Nat → Bool) (n : Nat) : Nat → Nat → Nat → Nat
  | 0, _, a => a
  | f + 1, k, a => zF g B n f (zn B n (k + 1)) (g a (zn B n (k + 1) - k))
theorem z_max {a b : Nat} (ha : a < 2147483648) (hb : b < 2147483648) : (if nI a < nI b then nI b else nI a) = nI (max a b) := by
  rcases Nat.lt_or_ge a b with q | q
  · rw [if_pos (nI_lt q hb), Nat.max_eq_right (by omega)]
  · rw [if_neg (nI_nlt q ha), Nat.max_eq_left q]
theorem z_min {a b : Nat} (ha : a < 2147483648) (hb : b < 2147483648) : (if nI b < nI a then nI b else nI a) = nI (min a b) := by
  rcases Nat.lt_or_ge b a with q | q
  · rw [if_pos (nI_lt q ha), Nat.min_eq_right (by omega)]
  · rw [if_neg (nI_nlt q hb), Nat.min_eq_left q]
theorem z_inof {x : Int32} {n : Nat} (h1 : ¬ x < 0) (h2 : x < nI n) (hn : n < 2147483648) : ∃ k, k < n ∧ x = nI k := by
  obtain ⟨j, hj, rfl⟩ := nI_of h1
  exact ⟨j, (nI_ltI hj hn).mp h2, rfl⟩
theorem z_join0 {M : Nat → Int32} {n k : Nat} (h : ¬ zn (zm M) n k < n) (i4 : ∀ j, n ≤ j → j < 16384 → zm M j = false) : ∀ j, j < 16384 → zm M j = (zm M j && !decide (j = zn (zm M) n k)) := by
  intro j hj
  by_cases q : j = zn (zm M) n k
  · rw [i4 j (by omega) hj, Bool.false_and]
  · rw [decide_eq_false q, Bool.not_false, Bool.and_true]
theorem z_join1 {M M' : Nat → Int32} {n k : Nat} (hk : k < n) (h : zG M M' (zb (zm M) k) (zn (zm M) n (zn (zm M) n (k + 1) + 1))) : ∀ j, j < 16384 → zm M' j = (zm M j && !decide (j = zn (zm M) n (k + 1))) := by
  intro j hj
  have a1 := zb_le (zm M) k
  have a2 := zn_ge (zm M) n (k + 1)
  have a3 := zn_ge (zm M) n (zn (zm M) n (k + 1) + 1)
  rw [h j hj]
  by_cases q : j = zn (zm M) n (k + 1)
  · rw [decide_eq_true q, decide_eq_true (by omega)]
  · rw [decide_eq_false q]
    by_cases z : zb (zm M) k < j ∧ j < zn (zm M) n (zn (zm M) n (k + 1) + 1)
    · rw [decide_eq_true z]
      have e : zm M j = false := by
        rcases Nat.lt_or_ge k j with w | w
        · rcases Nat.lt_or_ge j (zn (zm M) n (k + 1)) with v | v
          · exact zn_off j (by omega) v
          · exact zn_off (k := zn (zm M) n (k + 1) + 1) j (by omega) z.2
        · exact zb_off k j z.1 w
      rw [e, Bool.false_and, Bool.false_and]
    · rw [decide_eq_false z]
theorem z_make0 {M M1 M' : Nat → Int32} {n a b : Nat} (hb : b = n) (h1 : ∀ j, zm M1 j = (zm M j || decide (j = a))) (h : zG M1 M' a b) : ∀ j, j < 16384 → zm M' j = ((zm M j || decide (j = a) || (decide (j = b) && decide (b < n))) && !decide (a < j ∧ j < b)) := by
  intro j hj
  rw [h j hj, h1, decide_eq_false (show ¬ b < n by omega), Bool.and_false, Bool.or_false]
theorem z_make1 {M M1 M2 M' : Nat → Int32} {n a b : Nat} (hb : b < n) (h1 : ∀ j, zm M1 j = (zm M j || decide (j = a))) (h2 : ∀ j, zm M2 j = (zm M1 j || decide (j = b))) (h : zG M2 M' a b) : ∀ j, j < 16384 → zm M' j = ((zm M j || decide (j = a) || (decide (j = b) && decide (b < n))) && !decide (a < j ∧ j < b)) := by
  intro j hj
  rw [h j hj, h2, h1, decide_eq_true hb, Bool.and_true]
theorem z_mkof {z : Int32} {k n : Nat} (h1 : ¬ z ≤ nI k) (h2 : z ≤ nI n) (hn : k < n ∧ n < 2147483648) : ∃ b, k < b ∧ b ≤ n ∧ z = nI b := by
  have h0 : ¬ z < 0 := by
    intro q
    apply h1
    rw [Int32.le_iff_toInt_le, nI_toInt (by omega)]
    rw [Int32.lt_iff_toInt_lt, Int32.toInt_zero] at q
    omega
  obtain ⟨j, hj, rfl⟩ := nI_of h0
  refine ⟨j, ?_, (nI_leI hj hn.2).mp h2, rfl⟩
  rcases Nat.lt_or_ge k j with q | q
  · exact q
  · exact absurd (nI_le q (by omega)) h1
theorem z_spof {x : Int32} (h1 : ¬ x < nI 1) (h2 : x ≤ nI 16384) : ∃ k, 1 ≤ k ∧ k ≤ 16384 ∧ x = nI k := by
  have h0 : ¬ x < 0 := by
    intro q
    apply h1
    rw [Int32.lt_iff_toInt_lt, nI_toInt (by omega)]
    rw [Int32.lt_iff_toInt_lt, Int32.toInt_zero] at q
    omega
  obtain ⟨j, hj, rfl⟩ := nI_of h0
  refine ⟨j, ?_, (nI_leI hj (by omega)).mp h2, rfl⟩
  rcases Nat.lt_or_ge j 1 with q | q
  · exact absurd (nI_lt q (by omega)) h1
  · exact q
theorem z_sw5 (x : Int32) : x = nI 0 ∨ x = nI 1 ∨ x = nI 2 ∨ x = nI 3 ∨ x = nI 4 ∨ (x.toInt < 0 ∨ 4 < x.toInt) := by
  have key : ∀ k : Nat, k < 5 → x.toInt = k → x = nI k := fun k hk h => Int32.toInt_inj.mp (by rw [h, nI_toInt (by omega)])
  by_cases h : x.toInt < 0 ∨ 4 < x.toInt
  · exact Or.inr (Or.inr (Or.inr (Or.inr (Or.inr h))))
  · have e : x.toInt = 0 ∨ x.toInt = 1 ∨ x.toInt = 2 ∨ x.toInt = 3 ∨ x.toInt = 4 := by omega
    rcases e with e | e | e | e | e
    · exact Or.inl (key 0 (by omega) e)
    · exact Or.inr (Or.inl (key 1 (by omega) e))
    · exact Or.inr (Or.inr (Or.inl (key 2 (by omega) e)))
    · exact Or.inr (Or.inr (Or.inr (Or.inl (key 3 (by omega) e))))
    · exact Or.inr (Or.inr (Or.inr (Or.inr (Or.inl (key 4 (by omega) e)))))
theorem z_sw5n {x : Int32} (h : x.toInt < 0 ∨ 4 < x.toInt) : ¬ (x = nI 0 ∨ x = nI 1 ∨ x = nI 2 ∨ x = nI 3 ∨ x = nI 4) := by
  rintro (rfl | rfl | rfl | rfl | rfl) <;> revert h <;> decide
end
section
-- ===== PART A: goes FIRST, ahead of the names: the tables' words, and 'selects' of the private methods out of them =====
/-- a private method of a class that the tables say can be made, by its rows of tables_1 -/
def lw_okq (q : MethodName × Nat) : Prop := (q.1.cls ≠ "java/lang/invoke/MethodHandle" ∧ q.1.cls ≠ "java/lang/invoke/VarHandle") ∧ Cond.instantiable q.1.cls q.2 ∈ tables_1 ∧ Cond.privateMethod q.1 ∈ tables_1 ∧ Cond.instanceMethod q.1 ∈ tables_1
theorem lw_p0 : lw_okq (⟨"StartTable", "layOnePiece", "(I)V"⟩, 4) := ⟨⟨by decide +kernel, by decide +kernel⟩, List.mem_of_getElem? (i := 12) (by decide +kernel), List.mem_of_getElem? (i := 20) (by decide +kernel), List.mem_of_getElem? (i := 21) (by decide +kernel)⟩
theorem lw_p1 : lw_okq (⟨"java/lang/Throwable", "fillInStackTrace", "(I)Ljava/lang/Throwable;"⟩, 6) := ⟨⟨by decide +kernel, by decide +kernel⟩, List.mem_of_getElem? (i := 86) (by decide +kernel), List.mem_of_getElem? (i := 84) (by decide +kernel), List.mem_of_getElem? (i := 85) (by decide +kernel)⟩
theorem lw_p2 : lw_okq (⟨"StartTable", "checkCell", "(I)V"⟩, 4) := ⟨⟨by decide +kernel, by decide +kernel⟩, List.mem_of_getElem? (i := 12) (by decide +kernel), List.mem_of_getElem? (i := 124) (by decide +kernel), List.mem_of_getElem? (i := 125) (by decide +kernel)⟩
theorem lw_p3 : lw_okq (⟨"StartTable", "beginOf", "(I)I"⟩, 4) := ⟨⟨by decide +kernel, by decide +kernel⟩, List.mem_of_getElem? (i := 12) (by decide +kernel), List.mem_of_getElem? (i := 144) (by decide +kernel), List.mem_of_getElem? (i := 145) (by decide +kernel)⟩
theorem lw_p4 : lw_okq (⟨"StartTable", "cutAt", "(I)V"⟩, 4) := ⟨⟨by decide +kernel, by decide +kernel⟩, List.mem_of_getElem? (i := 12) (by decide +kernel), List.mem_of_getElem? (i := 152) (by decide +kernel), List.mem_of_getElem? (i := 153) (by decide +kernel)⟩
theorem lw_p5 : lw_okq (⟨"StartTable", "endOf", "(I)I"⟩, 4) := ⟨⟨by decide +kernel, by decide +kernel⟩, List.mem_of_getElem? (i := 12) (by decide +kernel), List.mem_of_getElem? (i := 159) (by decide +kernel), List.mem_of_getElem? (i := 160) (by decide +kernel)⟩
theorem lw_p6 : lw_okq (⟨"StartTable", "firstBeginFrom", "(I)I"⟩, 4) := ⟨⟨by decide +kernel, by decide +kernel⟩, List.mem_of_getElem? (i := 12) (by decide +kernel), List.mem_of_getElem? (i := 163) (by decide +kernel), List.mem_of_getElem? (i := 164) (by decide +kernel)⟩
theorem lw_p7 : lw_okq (⟨"StartTable", "cardCount", "()I"⟩, 4) := ⟨⟨by decide +kernel, by decide +kernel⟩, List.mem_of_getElem? (i := 12) (by decide +kernel), List.mem_of_getElem? (i := 167) (by decide +kernel), List.mem_of_getElem? (i := 168) (by decide +kernel)⟩
theorem lw_p8 : lw_okq (⟨"StartTable", "tellStarts", "(II)V"⟩, 4) := ⟨⟨by decide +kernel, by decide +kernel⟩, List.mem_of_getElem? (i := 12) (by decide +kernel), List.mem_of_getElem? (i := 174) (by decide +kernel), List.mem_of_getElem? (i := 175) (by decide +kernel)⟩
theorem lw_p9 : lw_okq (⟨"StartTable", "merge", "(II)V"⟩, 4) := ⟨⟨by decide +kernel, by decide +kernel⟩, List.mem_of_getElem? (i := 12) (by decide +kernel), List.mem_of_getElem? (i := 185) (by decide +kernel), List.mem_of_getElem? (i := 186) (by decide +kernel)⟩
theorem lw_p10 : lw_okq (⟨"StartTable", "checkCard", "(I)V"⟩, 4) := ⟨⟨by decide +kernel, by decide +kernel⟩, List.mem_of_getElem? (i := 12) (by decide +kernel), List.mem_of_getElem? (i := 218) (by decide +kernel), List.mem_of_getElem? (i := 219) (by decide +kernel)⟩
theorem lw_p11 : lw_okq (⟨"StartTable", "outermostSize", "(Z)I"⟩, 4) := ⟨⟨by decide +kernel, by decide +kernel⟩, List.mem_of_getElem? (i := 12) (by decide +kernel), List.mem_of_getElem? (i := 243) (by decide +kernel), List.mem_of_getElem? (i := 244) (by decide +kernel)⟩
theorem lw_p12 : lw_okq (⟨"StartTableModel", "goes", "(Z)Z"⟩, 3) := ⟨⟨by decide +kernel, by decide +kernel⟩, List.mem_of_getElem? (i := 254) (by decide +kernel), List.mem_of_getElem? (i := 279) (by decide +kernel), List.mem_of_getElem? (i := 280) (by decide +kernel)⟩
theorem lw_p13 : lw_okq (⟨"StartTableModel", "isCell", "(I)Z"⟩, 3) := ⟨⟨by decide +kernel, by decide +kernel⟩, List.mem_of_getElem? (i := 254) (by decide +kernel), List.mem_of_getElem? (i := 287) (by decide +kernel), List.mem_of_getElem? (i := 288) (by decide +kernel)⟩
theorem lw_p14 : lw_okq (⟨"StartTableModel", "from", "(I)I"⟩, 3) := ⟨⟨by decide +kernel, by decide +kernel⟩, List.mem_of_getElem? (i := 254) (by decide +kernel), List.mem_of_getElem? (i := 291) (by decide +kernel), List.mem_of_getElem? (i := 292) (by decide +kernel)⟩
theorem lw_p15 : lw_okq (⟨"StartTableModel", "behind", "(I)I"⟩, 3) := ⟨⟨by decide +kernel, by decide +kernel⟩, List.mem_of_getElem? (i := 254) (by decide +kernel), List.mem_of_getElem? (i := 299) (by decide +kernel), List.mem_of_getElem? (i := 300) (by decide +kernel)⟩
def lw_privs_1 : List (MethodName × Nat) := [(⟨"StartTable", "layOnePiece", "(I)V"⟩, 4), (⟨"java/lang/Throwable", "fillInStackTrace", "(I)Ljava/lang/Throwable;"⟩, 6), (⟨"StartTable", "checkCell", "(I)V"⟩, 4), (⟨"StartTable", "beginOf", "(I)I"⟩, 4), (⟨"StartTable", "cutAt", "(I)V"⟩, 4), (⟨"StartTable", "endOf", "(I)I"⟩, 4), (⟨"StartTable", "firstBeginFrom", "(I)I"⟩, 4), (⟨"StartTable", "cardCount", "()I"⟩, 4), (⟨"StartTable", "tellStarts", "(II)V"⟩, 4), (⟨"StartTable", "merge", "(II)V"⟩, 4), (⟨"StartTable", "checkCard", "(I)V"⟩, 4), (⟨"StartTable", "outermostSize", "(Z)I"⟩, 4), (⟨"StartTableModel", "goes", "(Z)Z"⟩, 3), (⟨"StartTableModel", "isCell", "(I)Z"⟩, 3), (⟨"StartTableModel", "from", "(I)I"⟩, 3), (⟨"StartTableModel", "behind", "(I)I"⟩, 3)]
theorem lw_r1 : ∀ q ∈ lw_privs_1, lw_okq q := List.forall_mem_cons.mpr ⟨lw_p0, List.forall_mem_cons.mpr ⟨lw_p1, List.forall_mem_cons.mpr ⟨lw_p2, List.forall_mem_cons.mpr ⟨lw_p3, List.forall_mem_cons.mpr ⟨lw_p4, List.forall_mem_cons.mpr ⟨lw_p5, List.forall_mem_cons.mpr ⟨lw_p6, List.forall_mem_cons.mpr ⟨lw_p7, List.forall_mem_cons.mpr ⟨lw_p8, List.forall_mem_cons.mpr ⟨lw_p9, List.forall_mem_cons.mpr ⟨lw_p10, List.forall_mem_cons.mpr ⟨lw_p11, List.forall_mem_cons.mpr ⟨lw_p12, List.forall_mem_cons.mpr ⟨lw_p13, List.forall_mem_cons.mpr ⟨lw_p14, List.forall_mem_cons.mpr ⟨lw_p15, fun _ h => absurd h List.not_mem_nil⟩⟩⟩⟩⟩⟩⟩⟩⟩⟩⟩⟩⟩⟩⟩⟩
theorem lw_p16 : lw_okq (⟨"StartTableModel", "pieces", "()I"⟩, 3) := ⟨⟨by decide +kernel, by decide +kernel⟩, List.mem_of_getElem? (i := 254) (by decide +kernel), List.mem_of_getElem? (i := 307) (by decide +kernel), List.mem_of_getElem? (i := 308) (by decide +kernel)⟩
theorem lw_p17 : lw_okq (⟨"StartTableModel", "isCard", "(I)Z"⟩, 3) := ⟨⟨by decide +kernel, by decide +kernel⟩, List.mem_of_getElem? (i := 254) (by decide +kernel), List.mem_of_getElem? (i := 323) (by decide +kernel), List.mem_of_getElem? (i := 324) (by decide +kernel)⟩
theorem lw_p18 : lw_okq (⟨"StartTableModel", "cards", "()I"⟩, 3) := ⟨⟨by decide +kernel, by decide +kernel⟩, List.mem_of_getElem? (i := 254) (by decide +kernel), List.mem_of_getElem? (i := 327) (by decide +kernel), List.mem_of_getElem? (i := 328) (by decide +kernel)⟩
def lw_privs_2 : List (MethodName × Nat) := [(⟨"StartTableModel", "pieces", "()I"⟩, 3), (⟨"StartTableModel", "isCard", "(I)Z"⟩, 3), (⟨"StartTableModel", "cards", "()I"⟩, 3)]
theorem lw_r2 : ∀ q ∈ lw_privs_2, lw_okq q := List.forall_mem_cons.mpr ⟨lw_p16, List.forall_mem_cons.mpr ⟨lw_p17, List.forall_mem_cons.mpr ⟨lw_p18, fun _ h => absurd h List.not_mem_nil⟩⟩⟩
def lw_privs : List (MethodName × Nat) := lw_privs_1 ++ (lw_privs_2)
def lw_tbl : List Cond := k2_sels lw_privs ++ tables_1
theorem lw_privs_ok : ∀ q ∈ lw_privs, lw_okq q := by
  show ∀ q ∈ lw_privs_1 ++ (lw_privs_2), lw_okq q
  exact List.forall_mem_append.mpr ⟨lw_r1, lw_r2⟩
/-! ===== BEGIN exceptions that leave a method, and their catching by the caller (launches without stack traces) ===== -/
section VXA
/-! The laws vx_back, vx_callV, vx_callS, vx_callSW, vx_throw0, vx_throwS follow proofs of the library, with one case more: JvmDerived/Free/Laws.lean (Back.of_free), Shelf42/LK1.lean (callV, callS), Shelf/KitTraced.lean (throwNew0V, throwNewS). -/
/-- where a method has thrown q: the class by its name, the cell, what was written, the world -/
def vx_T (XC : String → State → State → Prop) (st : State) (q : Addr) (t : State) (mc ms : Nat) (free : Addr → Prop) : Prop :=
  ∃ (E : String) (ce : Cell) (L : List Loc), XC E st t ∧ t.heap[q]? = some ce ∧ ce.vm = .none ∧ st.vm.findClass E = some ce.cls ∧ st.WarmedH t.vm ∧ st.sameButNew ({ t with vm := st.vm } : State) L mc ms ∧ ∀ z ∈ L, free z.base
def vx_Q (Qc : Array Value → State → Outcome → State → Prop) (XC : String → State → State → Prop) (mc ms : Nat) (free : Addr → Prop) : Array Value → State → Outcome → State → Prop := fun a st o t =>
  (Qc a st o t ∧ ∃ L, FrameEnd st o t L mc ms ∧ ∀ q ∈ L, free q.base) ∨ ∃ q, o = .threw q ∧ vx_T XC st q t mc ms free
/-- a callee that returns or throws -/
def vx_Met (l : Launch) (y : MethodName) (ws : List Cond) (rm : Room) (Pc : Array Value → State → Prop) (Qc : Array Value → State → Outcome → State → Prop) (XC : String → State → State → Prop) (mc ms : Nat) (free : Addr → Prop) : Prop :=
  MetFree l y (headSpec ws rm) Pc (fun _ _ _ _ _ => True) (vx_Q Qc XC mc ms free)
def vx_Post (XC : String → State → State → Prop) (mc ms : Nat) (free : Addr → Prop) : Pt → Array Value → Addr → Pt → Prop := fun A a q B =>
  ∃ (g : JFrame) (mk : MethodId) (t : State) (L : List Loc) (E : String) (ce : Cell), B.U.heap = t.heap ∧ B.U.vm = t.vm ∧ XC E (A.U.calling g mk a) t ∧ t.heap[q]? = some ce ∧ ce.vm = .none ∧ A.U.vm.findClass E = some ce.cls ∧ B.locs = A.locs ++ L ∧ (∀ z ∈ L, free z.base) ∧ B.cells = A.cells + mc ∧ B.slots = A.slots + ms
def vx_Back (l : Launch) (R : Room) (p : Program) (e : Env) (below : List Frame) (s : State) (sargs : Array Value) (y : MethodName) (len W9 : Nat)
    (Pre : Pt → Array Value → Prop) (Post : Pt → Array Value → Option Value → Pt → Prop) (PostX : Pt → Array Value → Addr → Pt → Prop) : Prop :=
  ∀ (m : MethodId) (meth : Method) (c : Code) (A : Pt) (g : JFrame) (ig : Instr) (mk : MethodId) (a : Array Value),
    Stand p l e R s m sargs below meth c A.U A.locs A.cells A.slots → g.method = m → g.locals.size = c.maxLocals → decode c.code g.pc = .ok (ig, len) →
    2 * g.monitorRoom + (g.stack.map fun v => v.category).sum ≤ W9 → A.U.methodNamed? y = some mk → Pre A a →
    (∃ (v : Option Value) (B : Pt), Stand p l e R s m sargs below meth c B.U B.locs B.cells B.slots ∧ Post A a v B ∧
      Steps p.tables e below (doInvoke e (A.U.setTop g) [] mk a).1 (B.U.setTop { g with pc := g.pc + len, stack := v.toList ++ g.stack })) ∨
    (∃ (q : Addr) (B : Pt), Stand p l e R s m sargs below meth c B.U B.locs B.cells B.slots ∧ PostX A a q B ∧
      Steps p.tables e below (doInvoke e (A.U.setTop g) [] mk a).1 ((B.U.setTop g).pushFrame (.throwing q)))
section Payer
variable {l : Launch} {R : Room} {p : Program} {e : Env} {below : List Frame} {s : State} {sargs : Array Value} {y : MethodName} {len W9 : Nat}
theorem vx_back {ws : List Cond} {rm : Room} {Pc : Array Value → State → Prop} {Qc : Array Value → State → Outcome → State → Prop} {XC : String → State → State → Prop} {mc ms : Nat} {free : Addr → Prop} {bytes : ByteArray} {maxL : Nat} {ret : Option FieldType}
    (hM : vx_Met l y ws rm Pc Qc XC mc ms free) (hblind : FrameBlind Pc) (hrc : rm.cells = mc) (hrs : rm.slots = ms)
    (hframes : rm.frames + 1 ≤ R.frames) (hlocals : W9 + (maxL + 11) + rm.locals ≤ R.locals)
    (hws : ∀ w ∈ ws, ∀ a' U, s.WarmedH U.vm → w.before a' U = true) (hcode : Cond.code y bytes maxL ret ∈ ws) (hinit : ∀ a' U, s.WarmedH U.vm → (Cond.initialized y.cls).before a' U = true) :
    vx_Back l R p e below s sargs y len W9 (PreOf R mc ms Pc) (PostOf Qc mc ms free) (vx_Post XC mc ms free) := by
  intro m meth c A g ig mk a X hg hsize hdg hW hn hp
  have h1 : (headSpec ws rm).pre.before a A.U = true := atoms_intro fun w hw => hws w hw _ _ X.warmed
  have h2 : (Cond.code y bytes maxL ret).before a A.U = true := hws _ hcode _ _ X.warmed
  have h3 : (Cond.initialized y.cls).before a A.U = true := hinit _ _ X.warmed
  have h4 : A.cells + (headSpec ws rm).room.cells ≤ R.cells := by rw [show (headSpec ws rm).room.cells = mc from hrc]; exact hp.1
  have h5 : A.slots + (headSpec ws rm).room.slots ≤ R.slots := by rw [show (headSpec ws rm).room.slots = ms from hrs]; exact hp.2.1
  have hPc : Pc a (A.U.calling g mk a) := hblind _ _ _ _ hp.2.2
  obtain ⟨U, Ls, c0, s0⟩ := A
  dsimp only [Pt.U, Pt.locs, Pt.cells, Pt.slots] at h1 h2 h3 h4 h5 X hn hPc ⊢
  obtain ⟨methY, cY, hmY, hcY, -, hlY, -, -, -, -⟩ := Cond.code_spec hn h2
  obtain ⟨kY, hkY, -⟩ := className_of_methodNamed hn
  have hinitY : kY.init = .initialized := Cond.initialized_spec (findClass_of_methodNamed hn) hkY h3
  have h : At U g.method c below := by rw [hg]; exact X.here
  have hlocals9 : W9 + (maxL + 11) + (headSpec ws rm).room.locals ≤ R.locals := hlocals
  have happ : (headSpec ws rm).appliesLoose y e.platform (U.calling g mk a) = true :=
    Spec.appliesLoose_calling (g := g) h hdg hn hkY hinitY
      (X.room_calling (g := g) (R' := (headSpec ws rm).room) hsize hmY hcY hframes (by rw [hlY]; omega) h4 h5) h1
  obtain ⟨mid, hmid⟩ := h.above
  have hfr : (U.setTop g).frames = (.java g :: mid) ++ below := by rw [State.frames_setTop' g h.top, hmid]; rfl
  obtain ⟨o, s₂, hsteps, -, hend, hq⟩ := Steps.callFree hM p X.admits X.cas X.clock (acts := []) hfr happ hPc trivial
  have hq' : vx_Q Qc XC mc ms free a (U.calling g mk a) o s₂ := hq
  rw [State.frames_setTop' g h.top] at hend
  obtain ⟨g₀, hg0⟩ := Option.isSome_iff_exists.mp h.top
  obtain ⟨r, hr⟩ := State.topJava?_eq_some.mp hg0
  have hr' : (({ U with heap := s₂.heap, slotsUsed := s₂.slotsUsed } : State).setVm s₂.vm).frames = .java g₀ :: r := hr
  rcases hq' with ⟨hqc, L, hfe, hL⟩ | ⟨q, rfl, E, ce, L, hx, hce, hcv, hcl, hW₂, hsm, hL⟩
  · obtain ⟨⟨v, rfl⟩, hW₂, e2, q2, q3, q4, q5, q6⟩ := id hfe
    have e3 : s₂ = ({ (U.calling g mk a).setFrames s₂.frames with heap := s₂.heap, slotsUsed := s₂.slotsUsed } : State).setVm s₂.vm := by
      have : s₂ = ({ s₂ with vm := (U.calling g mk a).vm } : State).setVm s₂.vm := rfl
      rw [e2] at this
      exact this
    obtain ⟨c₂, i₂, len₂, hc₂, hd₂, hf₂⟩ := hend
    have hW' : U.WarmedH s₂.vm := hW₂
    have hcc : c₂ = c := by
      have h1 : s₂.code? g.method = U.code? g.method := by
        rw [State.code?_eq, State.code?_eq, hW'.alike.method?]
      exact Option.some.inj (hc₂.symm.trans (h1.trans h.code))
    subst hcc
    have hlen : len₂ = len := by rw [hdg] at hd₂; cases hd₂; rfl
    subst hlen
    have hs₂ : s₂ = (({ U with heap := s₂.heap, slotsUsed := s₂.slotsUsed } : State).setVm s₂.vm).setTop { g with pc := g.pc + len₂, stack := v.toList ++ g.stack } := by
      refine e3.trans ?_
      rw [hf₂, State.calling_eq h.top, State.setFrames_setFrames, State.setTop_of_frames _ hr', hr]
      rfl
    have hsame : U.sameButNew ({ U with heap := s₂.heap, slotsUsed := s₂.slotsUsed } : State) L mc ms := by
      refine ⟨?_, q2, q3, q4, q5, q6⟩
      obtain ⟨t, ht, -⟩ := State.frames_cons hr
      show ({ U with heap := s₂.heap, slotsUsed := s₂.slotsUsed } : State) = { U.setFrames U.frames with heap := s₂.heap, slotsUsed := s₂.slotsUsed }
      rw [State.setFrames_self ht]
    subst hg
    refine Or.inl ⟨v, ⟨(({ U with heap := s₂.heap, slotsUsed := s₂.slotsUsed } : State).setVm s₂.vm), Ls ++ L, c0 + mc, s0 + ms⟩,
      ⟨X.admits, X.cas, X.clock, X.frames, X.room, X.hears, X.method, X.code, (X.here.setHeapUsed s₂.heap s₂.slotsUsed).setVm hW'.alike, X.tail, State.WarmedH.trans X.warmed hW', X.limits, X.bytes, X.same.trans (hsame.setVm s.vm)⟩,
      ⟨g, mk, s₂, L, rfl, rfl, hqc, rfl, hL, rfl, rfl⟩, ?_⟩
    show Steps p.tables e below _ ((({ U with heap := s₂.heap, slotsUsed := s₂.slotsUsed } : State).setVm s₂.vm).setTop { g with pc := g.pc + len₂, stack := v.toList ++ g.stack })
    rw [← hs₂]
    exact hsteps
  · obtain ⟨e2, q2, q3, q4, q5, q6⟩ := id hsm
    have e3 : s₂ = ({ (U.calling g mk a).setFrames s₂.frames with heap := s₂.heap, slotsUsed := s₂.slotsUsed } : State).setVm s₂.vm := by
      have : s₂ = ({ s₂ with vm := (U.calling g mk a).vm } : State).setVm s₂.vm := rfl
      rw [e2] at this
      exact this
    have hf₂ : s₂.frames = .throwing q :: .java g :: U.frames.tail := hend
    have hW' : U.WarmedH s₂.vm := hW₂
    have hs₂ : s₂ = ((({ U with heap := s₂.heap, slotsUsed := s₂.slotsUsed } : State).setVm s₂.vm).setTop g).pushFrame (.throwing q) := by
      refine e3.trans ?_
      rw [hf₂, State.calling_eq h.top, State.setFrames_setFrames, State.pushFrame, State.frames_setTop _ hr', State.setTop_of_frames _ hr', State.setFrames_setFrames, hr]
      rfl
    have hsame : U.sameButNew ({ U with heap := s₂.heap, slotsUsed := s₂.slotsUsed } : State) L mc ms := by
      refine ⟨?_, q2, q3, q4, q5, q6⟩
      obtain ⟨t, ht, -⟩ := State.frames_cons hr
      show ({ U with heap := s₂.heap, slotsUsed := s₂.slotsUsed } : State) = { U.setFrames U.frames with heap := s₂.heap, slotsUsed := s₂.slotsUsed }
      rw [State.setFrames_self ht]
    subst hg
    refine Or.inr ⟨q, ⟨(({ U with heap := s₂.heap, slotsUsed := s₂.slotsUsed } : State).setVm s₂.vm), Ls ++ L, c0 + mc, s0 + ms⟩,
      ⟨X.admits, X.cas, X.clock, X.frames, X.room, X.hears, X.method, X.code, (X.here.setHeapUsed s₂.heap s₂.slotsUsed).setVm hW'.alike, X.tail, State.WarmedH.trans X.warmed hW', X.limits, X.bytes, X.same.trans (hsame.setVm s.vm)⟩,
      ⟨g, mk, s₂, L, E, ce, rfl, rfl, hx, hce, hcv, hcl, rfl, hL, rfl, rfl⟩, ?_⟩
    show Steps p.tables e below _ (((({ U with heap := s₂.heap, slotsUsed := s₂.slotsUsed } : State).setVm s₂.vm).setTop g).pushFrame (.throwing q))
    rw [← hs₂]
    exact hsteps
end Payer
section Calls
variable {p : Program} {l : Launch} {e : Env} {R : Room} {s : State} {m : MethodId} {args : Array Value} {below : List Frame} {meth : Method} {c : Code} {T : State} {locs : List Loc} {cells slots : Nat}
theorem vx_callV (X : Stand p l e R s m args below meth c T locs cells slots) (hexec : p.tables.exec = Jvm.exec) {own C : String} {index : Nat} {y : MethodName} {bytes : ByteArray} {maxL : Nat} {ret : Option FieldType}
    (hown : s.vm.findClass own = some m.cls) (hlink : (Cond.methodLink own index y).before args s = true) (hinst : (Cond.instanceMethod y).before args s = true) (hsel : (Cond.selects C y y).before args s = true)
    (hcode : (Cond.code y bytes maxL ret).before args s = true) (hy : y.cls ≠ "java/lang/invoke/MethodHandle" ∧ y.cls ≠ "java/lang/invoke/VarHandle")
    {W9 : Nat} {Pre : Pt → Array Value → Prop} {Post : Pt → Array Value → Option Value → Pt → Prop} {PostX : Pt → Array Value → Addr → Pt → Prop} (hK : vx_Back l R p e below s args y 3 W9 Pre Post PostX)
    {b : Addr} {cellB : Cell} (hcell : T.heap[b]? = some cellB) (hobj : cellB.vm.isStatics = false) (hcls : s.vm.findClass C = some cellB.cls)
    {g : JFrame} (hg : g.method = m) (hsize : g.locals.size = c.maxLocals) {argsL rest : List Value} (hlen : ∀ sig, parseMethodDescriptor y.desc = some sig → argsL.length = sig.parameters.length)
    (hstack : g.stack = argsL.reverse ++ .ref b :: rest) (hW : 2 * g.monitorRoom + (rest.map fun v => v.category).sum ≤ W9) (hdg : decode c.code g.pc = .ok (.invokevirtual index, 3))
    (hpre : ∀ vm₁, s.WarmedH vm₁ → Pre ⟨T.setVm vm₁, locs, cells, slots⟩ (Value.ref b :: argsL).toArray) :
    (∃ (v : Option Value) (vm₁ : Vm) (B : Pt), s.WarmedH vm₁ ∧ Stand p l e R s m args below meth c B.U B.locs B.cells B.slots ∧ Post ⟨T.setVm vm₁, locs, cells, slots⟩ (Value.ref b :: argsL).toArray v B ∧
      ∀ target, Steps p.tables e below (B.U.setTop { g with pc := g.pc + 3, stack := v.toList ++ rest }) target → Steps p.tables e below (T.setTop g) target) ∨
    (∃ (q : Addr) (vm₁ : Vm) (B : Pt), s.WarmedH vm₁ ∧ Stand p l e R s m args below meth c B.U B.locs B.cells B.slots ∧ PostX ⟨T.setVm vm₁, locs, cells, slots⟩ (Value.ref b :: argsL).toArray q B ∧
      Steps p.tables e below (T.setTop g) ((B.U.setTop { g with stack := rest }).pushFrame (.throwing q))) := by
  obtain ⟨mk, methM, hnamed, hmethM, hstM, habM⟩ := Cond.instanceMethod_spec hinst
  obtain ⟨methM', cM, hmethM', -, -, -, -, -, -, hsigM⟩ := Cond.code_spec hnamed hcode
  cases hmethM.symm.trans hmethM'
  obtain ⟨c2, r2, m2, q1, q2, q3, q4, kP, hkP, hkPi⟩ := Cond.selects_spec hsel
  cases hcls.symm.trans q1
  cases (State.methodFound?_of_named hnamed hy).symm.trans q2
  cases hnamed.symm.trans q3
  have hselP : selectMethod e.platform s.vm cellB.cls mk = .method mk := by rw [Launch.admits_selectMethod X.admits]; exact q4
  obtain ⟨vm₁, X₁, hstep₁⟩ := X.invokevirtual hexec hown hlink hnamed hmethM hstM hkP hkPi hy (a := b) (cell := cellB) hcell
    (fun z h => by rw [h] at hobj; cases hobj) hselP hmethM habM hkP hkPi (g := g) hg (argsL := argsL) (rest := rest) (hlen _ hsigM) hstack hdg
  rcases hK m meth c ⟨T.setVm vm₁, locs, cells, slots⟩ { g with stack := rest } (.invokevirtual index) mk (Value.ref b :: argsL).toArray X₁ hg hsize hdg hW (X₁.named hnamed) (hpre vm₁ X₁.warmed) with ⟨v, B, X', hpost, hsteps⟩ | ⟨q, B, X', hpost, hsteps⟩
  · exact Or.inl ⟨v, vm₁, B, X₁.warmed, X', hpost, fun target h => hstep₁ _ fun acts => by rw [doInvoke_state]; exact hsteps.trans h⟩
  · exact Or.inr ⟨q, vm₁, B, X₁.warmed, X', hpost, hstep₁ _ fun acts => by rw [doInvoke_state]; exact hsteps⟩
theorem vx_callS (X : Stand p l e R s m args below meth c T locs cells slots) (hexec : p.tables.exec = Jvm.exec) {own : String} {index : Nat} {y : MethodName} {bytes : ByteArray} {maxL : Nat} {ret : Option FieldType}
    (hown : s.vm.findClass own = some m.cls) (hlink : (Cond.methodLink own index y).before args s = true) (hstat : (Cond.static y).before args s = true) (hinit : (Cond.initialized y.cls).before args s = true)
    (hcode : (Cond.code y bytes maxL ret).before args s = true) (hy : y.cls ≠ "java/lang/invoke/MethodHandle" ∧ y.cls ≠ "java/lang/invoke/VarHandle")
    {W9 : Nat} {Pre : Pt → Array Value → Prop} {Post : Pt → Array Value → Option Value → Pt → Prop} {PostX : Pt → Array Value → Addr → Pt → Prop} (hK : vx_Back l R p e below s args y 3 W9 Pre Post PostX)
    {g : JFrame} (hg : g.method = m) (hsize : g.locals.size = c.maxLocals) {argsL rest : List Value} (hlen : ∀ sig, parseMethodDescriptor y.desc = some sig → argsL.length = sig.parameters.length)
    (hstack : g.stack = argsL.reverse ++ rest) (hW : 2 * g.monitorRoom + (rest.map fun v => v.category).sum ≤ W9) (hdg : decode c.code g.pc = .ok (.invokestatic index, 3))
    (hpre : ∀ vm₁, s.WarmedH vm₁ → Pre ⟨T.setVm vm₁, locs, cells, slots⟩ argsL.toArray) :
    (∃ (v : Option Value) (vm₁ : Vm) (B : Pt), s.WarmedH vm₁ ∧ Stand p l e R s m args below meth c B.U B.locs B.cells B.slots ∧ Post ⟨T.setVm vm₁, locs, cells, slots⟩ argsL.toArray v B ∧
      ∀ target, Steps p.tables e below (B.U.setTop { g with pc := g.pc + 3, stack := v.toList ++ rest }) target → Steps p.tables e below (T.setTop g) target) ∨
    (∃ (q : Addr) (vm₁ : Vm) (B : Pt), s.WarmedH vm₁ ∧ Stand p l e R s m args below meth c B.U B.locs B.cells B.slots ∧ PostX ⟨T.setVm vm₁, locs, cells, slots⟩ argsL.toArray q B ∧
      Steps p.tables e below (T.setTop g) ((B.U.setTop { g with stack := rest }).pushFrame (.throwing q))) := by
  obtain ⟨mk, hnamed⟩ := Cond.code_named hcode
  obtain ⟨methM, cM, hmethM, -, -, -, -, -, -, hsigM⟩ := Cond.code_spec hnamed hcode
  have hstatic : methM.isStatic = true := Cond.static_spec hnamed hmethM hstat
  obtain ⟨kP, hkP, -⟩ := className_of_methodNamed hnamed
  have hinitP : kP.init = .initialized := Cond.initialized_spec (findClass_of_methodNamed hnamed) hkP hinit
  obtain ⟨vm₁, X₁, hstep₁⟩ := X.invokestatic hexec hown hlink hnamed hmethM hstatic hkP hinitP hy (g := g) hg (argsL := argsL) (rest := rest) (hlen _ hsigM) hstack hdg
  rcases hK m meth c ⟨T.setVm vm₁, locs, cells, slots⟩ { g with stack := rest } (.invokestatic index) mk argsL.toArray X₁ hg hsize hdg hW (X₁.named hnamed) (hpre vm₁ X₁.warmed) with ⟨v, B, X', hpost, hsteps⟩ | ⟨q, B, X', hpost, hsteps⟩
  · exact Or.inl ⟨v, vm₁, B, X₁.warmed, X', hpost, fun target h => hstep₁ _ fun acts => by rw [doInvoke_state]; exact hsteps.trans h⟩
  · exact Or.inr ⟨q, vm₁, B, X₁.warmed, X', hpost, hstep₁ _ fun acts => by rw [doInvoke_state]; exact hsteps⟩
end Calls
theorem vx_cls {s : State} {T : State} {vm₁ : Vm} {E : String} {k : ClassId} (hW : s.WarmedH vm₁) (h : (T.setVm vm₁).vm.findClass E = some k) : s.vm.findClass E = some k := by
  have h1 : vm₁.findClass E = some k := h
  rw [hW.alike.findClass] at h1
  exact h1
/-- the method's frame g, with q thrown over it -/
def vx_W (p : Program) (l : Launch) (e : Env) (R : Room) (s : State) (m : MethodId) (args : Array Value) (below : List Frame) (meth : Method) (c : Code) (H : Heap) (locs : List Loc) (cells slots : Nat) (Q : State → Prop) (g : JFrame) (q : Addr) : Prop :=
  ∀ T : State, T.heap = H → Stand p l e R s m args below meth c T locs cells slots → ∃ t, Steps p.tables e below ((T.setTop g).pushFrame (.throwing q)) t ∧ Q t
def vx_Run (p : Program) (l : Launch) (e : Env) (R : Room) (s : State) (m : MethodId) (args : Array Value) (below : List Frame) (meth : Method) (c : Code) (H : Heap) (locs : List Loc) (cells slots mc ms : Nat) (g : JFrame) (rest : List Value) (Qa : State → Outcome → State → Prop) (XC : String → State → State → Prop) (free : Addr → Prop) : Prop :=
  ∀ T : State, T.heap = H → Stand p l e R s m args below meth c T locs cells slots →
    (∃ (v : Option Value) (st₀ t T' : State) (L : List Loc), st₀.heap = H ∧ Stand p l e R s m args below meth c T' (locs ++ L) (cells + mc) (slots + ms) ∧ (∀ q ∈ L, free q.base) ∧ T'.heap = t.heap ∧ T'.vm = t.vm ∧ Qa st₀ (.returned v) t ∧
      Goes p e below T g T' { g with pc := g.pc + 3, stack := v.toList ++ rest }) ∨
    (∃ (q : Addr) (st₀ t T' : State) (L : List Loc) (E : String) (ce : Cell), st₀.heap = H ∧ Stand p l e R s m args below meth c T' (locs ++ L) (cells + mc) (slots + ms) ∧ (∀ z ∈ L, free z.base) ∧ T'.heap = t.heap ∧ T'.vm = t.vm ∧ XC E st₀ t ∧ t.heap[q]? = some ce ∧ ce.vm = .none ∧ s.vm.findClass E = some ce.cls ∧
      Steps p.tables e below (T.setTop g) ((T'.setTop { g with stack := rest }).pushFrame (.throwing q)))
def vx_X {S : Type} (px : S → Prop) (B : String → S → State → Prop) (A : Nat → Prop) : String → State → State → Prop := fun E st t => ∃ u : S, px u ∧ B E u t ∧ va_F A st t
section Runs
variable {p : Program} {l : Launch} {e : Env} {R : Room} {s : State} {m : MethodId} {args : Array Value} {below : List Frame} {meth : Method} {c : Code} {H : Heap} {locs : List Loc} {cells slots : Nat}
variable {y : MethodName} {bytes cc : ByteArray} {maxL nL mc ms n index : Nat} {ret : Option FieldType} {ws : List Cond} {rm : Room} {Pc : Array Value → State → Prop} {Qc : Array Value → State → Outcome → State → Prop} {XC : String → State → State → Prop} {free : Addr → Prop} {Ts : List Cond} {own C : String} {b : Addr} {As rest : List Value} {g : JFrame}
theorem vx_callBack (cb : CallB R s args own index y bytes maxL ret ws rm mc ms n) (hM : vx_Met l y ws rm Pc Qc XC mc ms free) (hbl : FrameBlind Pc) : vx_Back l R p e below s args y 3 8 (PreOf R mc ms Pc) (PostOf Qc mc ms free) (vx_Post XC mc ms free) := by
  obtain ⟨hrc, hrs, hfr, hlo, hws, hcw, -, hini, -⟩ := cb
  exact vx_back (bytes := bytes) (maxL := maxL) (ret := ret) hM hbl hrc hrs hfr hlo hws hcw (fun a' U hW => word_at hW (Or.inl (by first | rfl | simp [Cond.onTables, Cond.keeps, Cond.steady])) hini)
theorem vx_runV (S : CallFix p m c cc nL s args Ts own) (hM : vx_Met l y ws rm Pc Qc XC mc ms free) (cw : CallW R s args own C index y bytes maxL ret ws rm mc ms n) (hp : PreV s H C b Pc As)
    (hg : g.method = m) (hn : As.length = n) (hsize : g.locals.size = nL) (hstack : g.stack = As.reverse ++ .ref b :: rest) (hW : 2 * g.monitorRoom + (rest.map fun v => v.category).sum ≤ 8) (hdg : decode cc g.pc = .ok (.invokevirtual index, 3)) (hf : cells + mc ≤ R.cells ∧ slots + ms ≤ R.slots) :
    vx_Run p l e R s m args below meth c H locs cells slots mc ms g rest (Qc (Value.ref b :: As).toArray) XC free := by
  have hK : vx_Back l R p e below s args y 3 8 (PreOf R mc ms Pc) (PostOf Qc mc ms free) (vx_Post XC mc ms free) := vx_callBack cw.1 hM hp.1
  obtain ⟨⟨-, -, -, -, -, -, hcode, -, hy, hlen, hl⟩, hin, hse⟩ := cw
  obtain ⟨hx, hb, hml, ho, -⟩ := S
  obtain ⟨-, ⟨cellB, hcB, hoB, hclB⟩, hPc⟩ := hp
  intro T hT X
  rcases vx_callV X hx (C := C) (bytes := bytes) (maxL := maxL) (ret := ret) ho hl hin hse hcode hy hK (by rw [hT]; exact hcB) hoB hclB hg (hsize.trans hml.symm) (argsL := As) (rest := rest) (fun sig h => hn.trans (hlen sig h)) hstack hW (by rw [hb]; exact hdg)
    (fun vm₁ hW₁ => ⟨hf.1, hf.2, hPc (T.setVm vm₁) hT hW₁⟩) with ⟨v, vm₁, ⟨U', l2, c2, s2⟩, hW₁, X', ⟨g', mk, t, L, e1, e2, hq, h1, hL, h2, h3⟩, st⟩ | ⟨q, vm₁, ⟨U', l2, c2, s2⟩, hW₁, X', ⟨g', mk, t, L, E, ce, e1, e2, hq, hce, hcv, hcl, h1, hL, h2, h3⟩, st⟩
  · dsimp only [Pt.U, Pt.locs, Pt.cells, Pt.slots] at X' e1 e2 h1 h2 h3 st
    subst h1; subst h2; subst h3
    exact Or.inl ⟨v, (T.setVm vm₁).calling g' mk (Value.ref b :: As).toArray, t, U', L, hT, X', hL, e1, e2, hq, st⟩
  · dsimp only [Pt.U, Pt.locs, Pt.cells, Pt.slots] at X' e1 e2 h1 h2 h3 st hcl
    subst h1; subst h2; subst h3
    exact Or.inr ⟨q, (T.setVm vm₁).calling g' mk (Value.ref b :: As).toArray, t, U', L, E, ce, hT, X', hL, e1, e2, hq, hce, hcv, vx_cls hW₁ hcl, st⟩
theorem vx_runS (S : CallFix p m c cc nL s args Ts own) (hM : vx_Met l y ws rm Pc Qc XC mc ms free) (cw : CallB R s args own index y bytes maxL ret ws rm mc ms n ∧ (Cond.static y).before args s = true) (hp : PreS s H Pc As)
    (hg : g.method = m) (hn : As.length = n) (hsize : g.locals.size = nL) (hstack : g.stack = As.reverse ++ rest) (hW : 2 * g.monitorRoom + (rest.map fun v => v.category).sum ≤ 8) (hdg : decode cc g.pc = .ok (.invokestatic index, 3)) (hf : cells + mc ≤ R.cells ∧ slots + ms ≤ R.slots) :
    vx_Run p l e R s m args below meth c H locs cells slots mc ms g rest (Qc As.toArray) XC free := by
  have hK : vx_Back l R p e below s args y 3 8 (PreOf R mc ms Pc) (PostOf Qc mc ms free) (vx_Post XC mc ms free) := vx_callBack cw.1 hM hp.1
  obtain ⟨⟨-, -, -, -, -, -, hcode, hini, hy, hlen, hl⟩, hstt⟩ := cw
  obtain ⟨hx, hb, hml, ho, -⟩ := S
  intro T hT X
  rcases vx_callS X hx (bytes := bytes) (maxL := maxL) (ret := ret) ho hl hstt hini hcode hy hK hg (hsize.trans hml.symm) (argsL := As) (rest := rest) (fun sig h => hn.trans (hlen sig h)) hstack hW (by rw [hb]; exact hdg)
    (fun vm₁ hW₁ => ⟨hf.1, hf.2, hp.2 (T.setVm vm₁) hT hW₁⟩) with ⟨v, vm₁, ⟨U', l2, c2, s2⟩, hW₁, X', ⟨g', mk, t, L, e1, e2, hq, h1, hL, h2, h3⟩, st⟩ | ⟨q, vm₁, ⟨U', l2, c2, s2⟩, hW₁, X', ⟨g', mk, t, L, E, ce, e1, e2, hq, hce, hcv, hcl, h1, hL, h2, h3⟩, st⟩
  · dsimp only [Pt.U, Pt.locs, Pt.cells, Pt.slots] at X' e1 e2 h1 h2 h3 st
    subst h1; subst h2; subst h3
    exact Or.inl ⟨v, (T.setVm vm₁).calling g' mk As.toArray, t, U', L, hT, X', hL, e1, e2, hq, st⟩
  · dsimp only [Pt.U, Pt.locs, Pt.cells, Pt.slots] at X' e1 e2 h1 h2 h3 st hcl
    subst h1; subst h2; subst h3
    exact Or.inr ⟨q, (T.setVm vm₁).calling g' mk As.toArray, t, U', L, E, ce, hT, X', hL, e1, e2, hq, hce, hcv, vx_cls hW₁ hcl, st⟩
end Runs
section Rows
variable {p : Program} {l : Launch} {e : Env} {R : Room} {s : State} {m : MethodId} {args : Array Value} {below : List Frame} {meth : Method} {c : Code} {H : Heap} {locs : List Loc} {cells slots : Nat} {Q : State → Prop}
variable {mc ms : Nat} {free : Addr → Prop} {A0 A1 : Nat → Prop} {H0 : Heap} {a : Array Value} {pc : Nat} {ls : Array Slot} {st0 rest : List Value}
theorem vx_keep {st₀ t T' : State} {L : List Loc} (h0 : st₀.heap = H) (e1 : T'.heap = t.heap) (hS : va_S A0 H0 H locs) (hA : ∀ q, q < H.size → A1 q → A0 q) (hf : ∀ q, free q → A0 q) (hL : ∀ q ∈ L, free q.base) (hF : va_F A1 st₀ t) :
    H.size ≤ T'.heap.size ∧ (∀ q : Nat, q < H.size → ¬ A1 q → T'.heap[q]? = H[q]?) ∧ va_S A0 H0 T'.heap (locs ++ L) := by
  obtain ⟨hz, hk⟩ := hF
  rw [h0] at hz hk
  exact ⟨by rw [e1]; exact hz, fun q h1 h2 => by rw [e1]; exact hk q h1 h2,
    ⟨Nat.le_trans hS.1 (by rw [e1]; exact hz), fun q h1 h2 => by rw [e1, hk q (Nat.lt_of_lt_of_le h1 hS.1) (fun z => h2 (hA q (Nat.lt_of_lt_of_le h1 hS.1) z))]; exact hS.2.1 q h1 h2, fun q hq => by
      rcases List.mem_append.mp hq with h | h
      · exact hS.2.2 q h
      · exact hf _ (hL q h)⟩⟩
theorem vx_calli {S SX : Type} {post : Int32 → S → Prop} {px : SX → Prop} {B : S → State → Prop} {BX : String → SX → State → Prop} {AX : Nat → Prop} (hr : vx_Run p l e R s m args below meth c H locs cells slots mc ms (F0 m pc ls st0) rest (va_Qi post B A1 a) (vx_X px BX AX) free) (hS : va_S A0 H0 H locs) (hA : ∀ q, q < H.size → A1 q → A0 q) (hf : ∀ q, free q → A0 q) (hAX : ∀ q, q < H.size → AX q → A0 q)
    (kx : ∀ (E : String) (ce : Cell) (q9 : Addr) (u : SX) (t : State) (H1 : Heap) (locs1 : List Loc), t.heap = H1 → s.vm.Alike t.vm → px u → BX E u t → H.size ≤ H1.size → (∀ q : Nat, q < H.size → ¬ AX q → H1[q]? = H[q]?) → va_S A0 H0 H1 locs1 → H1[q9]? = some ce → ce.vm = .none → s.vm.findClass E = some ce.cls → vx_W p l e R s m args below meth c H1 locs1 (cells + mc) (slots + ms) Q (F0 m pc ls rest) q9)
    (kk : ∀ (r : Int32) (u : S) (t : State) (H1 : Heap) (locs1 : List Loc), t.heap = H1 → s.vm.Alike t.vm → post r u → B u t → H.size ≤ H1.size → (∀ q : Nat, q < H.size → ¬ A1 q → H1[q]? = H[q]?) → va_S A0 H0 H1 locs1 → W p l e R s m args below meth c H1 locs1 (cells + mc) (slots + ms) Q (F0 m (pc + 3) ls (.int r :: rest))) : W p l e R s m args below meth c H locs cells slots Q (F0 m pc ls st0) := by
  intro T hT X
  rcases hr T hT X with ⟨v, st₀, t, T', L, h0, X', hL, e1, e2, ⟨⟨r, u, hv, hp, hb⟩, hF⟩, st⟩ | ⟨q, st₀, t, T', L, E, ce, h0, X', hL, e1, e2, ⟨u, hp, hb, hF⟩, hce, hcv, hcl, st⟩
  · cases hv
    obtain ⟨k1, k2, k3⟩ := vx_keep h0 e1 hS hA hf hL hF
    obtain ⟨t2, a1, b1⟩ := kk r u t T'.heap (locs ++ L) e1.symm (by rw [← e2]; exact X'.warmed.alike) hp hb k1 k2 k3 T' rfl X'
    exact ⟨t2, st t2 a1, b1⟩
  · obtain ⟨k1, k2, k3⟩ := vx_keep h0 e1 hS hAX hf hL hF
    obtain ⟨t2, a1, b1⟩ := kx E ce q u t T'.heap (locs ++ L) e1.symm (by rw [← e2]; exact X'.warmed.alike) hp hb k1 k2 k3 (by rw [e1]; exact hce) hcv hcl T' rfl X'
    exact ⟨t2, st.trans a1, b1⟩
theorem vx_calll {S SX : Type} {post : Int64 → S → Prop} {px : SX → Prop} {B : S → State → Prop} {BX : String → SX → State → Prop} {AX : Nat → Prop} (hr : vx_Run p l e R s m args below meth c H locs cells slots mc ms (F0 m pc ls st0) rest (va_Ql post B A1 a) (vx_X px BX AX) free) (hS : va_S A0 H0 H locs) (hA : ∀ q, q < H.size → A1 q → A0 q) (hf : ∀ q, free q → A0 q) (hAX : ∀ q, q < H.size → AX q → A0 q)
    (kx : ∀ (E : String) (ce : Cell) (q9 : Addr) (u : SX) (t : State) (H1 : Heap) (locs1 : List Loc), t.heap = H1 → s.vm.Alike t.vm → px u → BX E u t → H.size ≤ H1.size → (∀ q : Nat, q < H.size → ¬ AX q → H1[q]? = H[q]?) → va_S A0 H0 H1 locs1 → H1[q9]? = some ce → ce.vm = .none → s.vm.findClass E = some ce.cls → vx_W p l e R s m args below meth c H1 locs1 (cells + mc) (slots + ms) Q (F0 m pc ls rest) q9)
    (kk : ∀ (r : Int64) (u : S) (t : State) (H1 : Heap) (locs1 : List Loc), t.heap = H1 → s.vm.Alike t.vm → post r u → B u t → H.size ≤ H1.size → (∀ q : Nat, q < H.size → ¬ A1 q → H1[q]? = H[q]?) → va_S A0 H0 H1 locs1 → W p l e R s m args below meth c H1 locs1 (cells + mc) (slots + ms) Q (F0 m (pc + 3) ls (.long r :: rest))) : W p l e R s m args below meth c H locs cells slots Q (F0 m pc ls st0) := by
  intro T hT X
  rcases hr T hT X with ⟨v, st₀, t, T', L, h0, X', hL, e1, e2, ⟨⟨r, u, hv, hp, hb⟩, hF⟩, st⟩ | ⟨q, st₀, t, T', L, E, ce, h0, X', hL, e1, e2, ⟨u, hp, hb, hF⟩, hce, hcv, hcl, st⟩
  · cases hv
    obtain ⟨k1, k2, k3⟩ := vx_keep h0 e1 hS hA hf hL hF
    obtain ⟨t2, a1, b1⟩ := kk r u t T'.heap (locs ++ L) e1.symm (by rw [← e2]; exact X'.warmed.alike) hp hb k1 k2 k3 T' rfl X'
    exact ⟨t2, st t2 a1, b1⟩
  · obtain ⟨k1, k2, k3⟩ := vx_keep h0 e1 hS hAX hf hL hF
    obtain ⟨t2, a1, b1⟩ := kx E ce q u t T'.heap (locs ++ L) e1.symm (by rw [← e2]; exact X'.warmed.alike) hp hb k1 k2 k3 (by rw [e1]; exact hce) hcv hcl T' rfl X'
    exact ⟨t2, st.trans a1, b1⟩
theorem vx_callf {S SX : Type} {post : UInt32 → S → Prop} {px : SX → Prop} {B : S → State → Prop} {BX : String → SX → State → Prop} {AX : Nat → Prop} (hr : vx_Run p l e R s m args below meth c H locs cells slots mc ms (F0 m pc ls st0) rest (va_Qf post B A1 a) (vx_X px BX AX) free) (hS : va_S A0 H0 H locs) (hA : ∀ q, q < H.size → A1 q → A0 q) (hf : ∀ q, free q → A0 q) (hAX : ∀ q, q < H.size → AX q → A0 q)
    (kx : ∀ (E : String) (ce : Cell) (q9 : Addr) (u : SX) (t : State) (H1 : Heap) (locs1 : List Loc), t.heap = H1 → s.vm.Alike t.vm → px u → BX E u t → H.size ≤ H1.size → (∀ q : Nat, q < H.size → ¬ AX q → H1[q]? = H[q]?) → va_S A0 H0 H1 locs1 → H1[q9]? = some ce → ce.vm = .none → s.vm.findClass E = some ce.cls → vx_W p l e R s m args below meth c H1 locs1 (cells + mc) (slots + ms) Q (F0 m pc ls rest) q9)
    (kk : ∀ (r : UInt32) (u : S) (t : State) (H1 : Heap) (locs1 : List Loc), t.heap = H1 → s.vm.Alike t.vm → post r u → B u t → H.size ≤ H1.size → (∀ q : Nat, q < H.size → ¬ A1 q → H1[q]? = H[q]?) → va_S A0 H0 H1 locs1 → W p l e R s m args below meth c H1 locs1 (cells + mc) (slots + ms) Q (F0 m (pc + 3) ls (.float r :: rest))) : W p l e R s m args below meth c H locs cells slots Q (F0 m pc ls st0) := by
  intro T hT X
  rcases hr T hT X with ⟨v, st₀, t, T', L, h0, X', hL, e1, e2, ⟨⟨r, u, hv, hp, hb⟩, hF⟩, st⟩ | ⟨q, st₀, t, T', L, E, ce, h0, X', hL, e1, e2, ⟨u, hp, hb, hF⟩, hce, hcv, hcl, st⟩
  · cases hv
    obtain ⟨k1, k2, k3⟩ := vx_keep h0 e1 hS hA hf hL hF
    obtain ⟨t2, a1, b1⟩ := kk r u t T'.heap (locs ++ L) e1.symm (by rw [← e2]; exact X'.warmed.alike) hp hb k1 k2 k3 T' rfl X'
    exact ⟨t2, st t2 a1, b1⟩
  · obtain ⟨k1, k2, k3⟩ := vx_keep h0 e1 hS hAX hf hL hF
    obtain ⟨t2, a1, b1⟩ := kx E ce q u t T'.heap (locs ++ L) e1.symm (by rw [← e2]; exact X'.warmed.alike) hp hb k1 k2 k3 (by rw [e1]; exact hce) hcv hcl T' rfl X'
    exact ⟨t2, st.trans a1, b1⟩
theorem vx_calld {S SX : Type} {post : UInt64 → S → Prop} {px : SX → Prop} {B : S → State → Prop} {BX : String → SX → State → Prop} {AX : Nat → Prop} (hr : vx_Run p l e R s m args below meth c H locs cells slots mc ms (F0 m pc ls st0) rest (va_Qd post B A1 a) (vx_X px BX AX) free) (hS : va_S A0 H0 H locs) (hA : ∀ q, q < H.size → A1 q → A0 q) (hf : ∀ q, free q → A0 q) (hAX : ∀ q, q < H.size → AX q → A0 q)
    (kx : ∀ (E : String) (ce : Cell) (q9 : Addr) (u : SX) (t : State) (H1 : Heap) (locs1 : List Loc), t.heap = H1 → s.vm.Alike t.vm → px u → BX E u t → H.size ≤ H1.size → (∀ q : Nat, q < H.size → ¬ AX q → H1[q]? = H[q]?) → va_S A0 H0 H1 locs1 → H1[q9]? = some ce → ce.vm = .none → s.vm.findClass E = some ce.cls → vx_W p l e R s m args below meth c H1 locs1 (cells + mc) (slots + ms) Q (F0 m pc ls rest) q9)
    (kk : ∀ (r : UInt64) (u : S) (t : State) (H1 : Heap) (locs1 : List Loc), t.heap = H1 → s.vm.Alike t.vm → post r u → B u t → H.size ≤ H1.size → (∀ q : Nat, q < H.size → ¬ A1 q → H1[q]? = H[q]?) → va_S A0 H0 H1 locs1 → W p l e R s m args below meth c H1 locs1 (cells + mc) (slots + ms) Q (F0 m (pc + 3) ls (.double r :: rest))) : W p l e R s m args below meth c H locs cells slots Q (F0 m pc ls st0) := by
  intro T hT X
  rcases hr T hT X with ⟨v, st₀, t, T', L, h0, X', hL, e1, e2, ⟨⟨r, u, hv, hp, hb⟩, hF⟩, st⟩ | ⟨q, st₀, t, T', L, E, ce, h0, X', hL, e1, e2, ⟨u, hp, hb, hF⟩, hce, hcv, hcl, st⟩
  · cases hv
    obtain ⟨k1, k2, k3⟩ := vx_keep h0 e1 hS hA hf hL hF
    obtain ⟨t2, a1, b1⟩ := kk r u t T'.heap (locs ++ L) e1.symm (by rw [← e2]; exact X'.warmed.alike) hp hb k1 k2 k3 T' rfl X'
    exact ⟨t2, st t2 a1, b1⟩
  · obtain ⟨k1, k2, k3⟩ := vx_keep h0 e1 hS hAX hf hL hF
    obtain ⟨t2, a1, b1⟩ := kx E ce q u t T'.heap (locs ++ L) e1.symm (by rw [← e2]; exact X'.warmed.alike) hp hb k1 k2 k3 (by rw [e1]; exact hce) hcv hcl T' rfl X'
    exact ⟨t2, st.trans a1, b1⟩
theorem vx_callv {S SX : Type} {post : S → Prop} {px : SX → Prop} {B : S → State → Prop} {BX : String → SX → State → Prop} {AX : Nat → Prop} (hr : vx_Run p l e R s m args below meth c H locs cells slots mc ms (F0 m pc ls st0) rest (va_Qv post B A1 a) (vx_X px BX AX) free) (hS : va_S A0 H0 H locs) (hA : ∀ q, q < H.size → A1 q → A0 q) (hf : ∀ q, free q → A0 q) (hAX : ∀ q, q < H.size → AX q → A0 q)
    (kx : ∀ (E : String) (ce : Cell) (q9 : Addr) (u : SX) (t : State) (H1 : Heap) (locs1 : List Loc), t.heap = H1 → s.vm.Alike t.vm → px u → BX E u t → H.size ≤ H1.size → (∀ q : Nat, q < H.size → ¬ AX q → H1[q]? = H[q]?) → va_S A0 H0 H1 locs1 → H1[q9]? = some ce → ce.vm = .none → s.vm.findClass E = some ce.cls → vx_W p l e R s m args below meth c H1 locs1 (cells + mc) (slots + ms) Q (F0 m pc ls rest) q9)
    (kk : ∀ (u : S) (t : State) (H1 : Heap) (locs1 : List Loc), t.heap = H1 → s.vm.Alike t.vm → post u → B u t → H.size ≤ H1.size → (∀ q : Nat, q < H.size → ¬ A1 q → H1[q]? = H[q]?) → va_S A0 H0 H1 locs1 → W p l e R s m args below meth c H1 locs1 (cells + mc) (slots + ms) Q (F0 m (pc + 3) ls (rest))) : W p l e R s m args below meth c H locs cells slots Q (F0 m pc ls st0) := by
  intro T hT X
  rcases hr T hT X with ⟨v, st₀, t, T', L, h0, X', hL, e1, e2, ⟨⟨u, hv, hp, hb⟩, hF⟩, st⟩ | ⟨q, st₀, t, T', L, E, ce, h0, X', hL, e1, e2, ⟨u, hp, hb, hF⟩, hce, hcv, hcl, st⟩
  · cases hv
    obtain ⟨k1, k2, k3⟩ := vx_keep h0 e1 hS hA hf hL hF
    obtain ⟨t2, a1, b1⟩ := kk u t T'.heap (locs ++ L) e1.symm (by rw [← e2]; exact X'.warmed.alike) hp hb k1 k2 k3 T' rfl X'
    exact ⟨t2, st t2 a1, b1⟩
  · obtain ⟨k1, k2, k3⟩ := vx_keep h0 e1 hS hAX hf hL hF
    obtain ⟨t2, a1, b1⟩ := kx E ce q u t T'.heap (locs ++ L) e1.symm (by rw [← e2]; exact X'.warmed.alike) hp hb k1 k2 k3 (by rw [e1]; exact hce) hcv hcl T' rfl X'
    exact ⟨t2, st.trans a1, b1⟩
/-- caught by the row x of this method's table; the rows ahead don't take it -/
theorem vx_catch {own name : String} {E : String} {ce : Cell} {q : Addr} (hown : s.vm.findClass own = some m.cls) (pre : List ExceptionTableEntry) (x : ExceptionTableEntry) (suf : List ExceptionTableEntry) (hsplit : c.exceptionTable.toList = pre ++ x :: suf)
    (hpass : ∀ z ∈ pre, covers z pc = false ∨ (z.catchType ≠ 0 ∧ ∃ nm : String, (Cond.classLink own z.catchType nm).before args s = true ∧ va_Nc E nm s)) (hx : covers x pc = true) (h0 : x.catchType ≠ 0)
    (hlink : (Cond.classLink own x.catchType name).before args s = true) (hcast : (Cond.castable E name).before args s = true) (hcell : H[q]? = some ce) (hv : ce.vm = .none) (hcl : s.vm.findClass E = some ce.cls)
    (kk : W p l e R s m args below meth c H locs cells slots Q (F0 m x.handlerPc ls [.ref q])) : vx_W p l e R s m args below meth c H locs cells slots Q (F0 m pc ls rest) q := by
  intro T hT X
  have hpl : e.platform.magicAccessors = ({} : Platform).magicAccessors := by rw [X.admits.platform]
  obtain ⟨c3, c4, hc3, hc4, hasg⟩ := Cond.castable_spec hcast
  cases Option.some.inj (hc3.symm.trans hcl)
  obtain ⟨c5, hc5, hcl5⟩ := Cond.classLink_spec hown hlink e.platform hpl
  cases Option.some.inj (hc4.symm.trans hc5)
  obtain ⟨vm', X', st⟩ := X.thenCaughtThrough q (g := F0 m pc ls rest) rfl (Steps.refl _) (by rw [hT]; exact hcell) (by rw [hv]; rfl) (by obtain ⟨k9, h9, -⟩ := Vm.findClass_spec hcl; exact ⟨k9, h9⟩) pre x suf hsplit
    (fun z hz => by
      rcases hpass z hz with h | ⟨hz0, nm, hl1, hn1⟩
      · exact Or.inl h
      · obtain ⟨c6, hc6, hcl6⟩ := Cond.classLink_spec hown hl1 e.platform hpl
        obtain ⟨a8, b8, h1, h2, h3⟩ := hn1
        cases Option.some.inj (h1.symm.trans hcl)
        cases Option.some.inj (h2.symm.trans hc6)
        exact Or.inr ⟨hz0, _, hcl6, h3⟩) hx (Or.inr ⟨h0, c4, hcl5, hasg⟩)
  obtain ⟨t, a1, b1⟩ := kk (T.setVm vm') hT X'
  exact ⟨t, st.trans a1, b1⟩
end Rows
section Ends
variable {p : Program} {l : Launch} {e : Env} {R : Room} {s : State} {m : MethodId} {args : Array Value} {below : List Frame} {meth : Method} {c : Code} {H : Heap} {locs : List Loc} {cells slots : Nat} {Q : State → Prop}
variable {mc ms : Nat} {free : Addr → Prop} {A0 A1 : Nat → Prop} {H0 : Heap} {a : Array Value} {ls : Array Slot} {st0 rest : List Value}
variable {Qc : Array Value → State → Outcome → State → Prop} {XC : String → State → State → Prop}
/-- what a body that may throw owes at its end -/
def vx_MQ (below : List Frame) (Qc : Array Value → State → Outcome → State → Prop) (XC : String → State → State → Prop) (a : Array Value) (s : State) (mc ms : Nat) (free : Addr → Prop) : State → Prop := fun t =>
  ∃ o, t.status = .running ∧ Ended t below o ∧ vx_Q Qc XC mc ms free a s o t
theorem vx_ret {g : JFrame} {mc ms : Nat} (k : W p l e R s m args below meth c H locs cells slots (MQ below Qc args s mc ms free) g) : W p l e R s m args below meth c H locs cells slots (vx_MQ below Qc XC args s mc ms free) g := by
  intro T hT X
  obtain ⟨t, a1, o, b1, b2, b3, b4⟩ := k T hT X
  exact ⟨t, a1, o, b1, b2, Or.inl ⟨b3, b4⟩⟩
/-- not caught here: it goes on to the caller -/
theorem vx_widen {g : JFrame} {q : Addr} {k n : Nat} (h1 : cells ≤ k) (h2 : slots ≤ n) (kk : vx_W p l e R s m args below meth c H locs k n Q g q) : vx_W p l e R s m args below meth c H locs cells slots Q g q := fun T hT X => kk T hT (stand_widen X h1 h2)
theorem vx_out {pc : Nat} {E : String} {ce : Cell} {q : Addr} {mc ms : Nat} (hout : ∀ x ∈ c.exceptionTable.toList, covers x pc = false) (hlocks : meth.locks = false) (hcell : H[q]? = some ce) (hv : ce.vm = .none) (hcl : s.vm.findClass E = some ce.cls)
    (hx : ∀ t : State, t.heap = H → s.vm.Alike t.vm → XC E s t) (hf : ∀ z ∈ locs, free z.base) (hc : cells ≤ mc) (hs : slots ≤ ms) :
    vx_W p l e R s m args below meth c H locs cells slots (vx_MQ below Qc XC args s mc ms free) (F0 m pc ls rest) q := by
  intro T hT X
  obtain ⟨st1, hrun, hend, hW, hsm⟩ := X.leaveThrown q (g := F0 m pc ls rest) rfl rfl rfl hout hlocks
  have hcell9 : (T.setFrames (.throwing q :: below)).heap[q]? = some ce := by
    show T.heap[q]? = some ce
    rw [hT]; exact hcell
  exact ⟨_, st1, .threw q, hrun, hend, Or.inr ⟨q, rfl, E, ce, locs, hx _ hT hW.alike, hcell9, hv, hcl, hW, hsm.mono hc hs, hf⟩⟩
theorem vx_frame {U : State} {k n : Nat} (h : s.sameButNew ({ U with vm := s.vm } : State) locs k n) : s.heap.size ≤ U.heap.size ∧ ∀ q : Nat, q < s.heap.size → (∀ z ∈ locs, z.base ≠ q) → U.heap[q]? = s.heap[q]? := by
  obtain ⟨-, h2, -, -, -, h6⟩ := h
  refine ⟨h2, fun q hq hz => ?_⟩
  obtain ⟨c9, e1, e2, e3, e4⟩ := h6 q _ (Array.getElem?_eq_getElem hq)
  have hs : c9.slots = (s.heap[q]).slots := Array.ext_getElem? fun i => e4 i fun hm => hz _ hm rfl
  have h9 : c9 = s.heap[q] := by
    rw [hs] at e2
    exact e2
  have e5 : U.heap[q]? = some c9 := e1
  rw [e5, h9, Array.getElem?_eq_getElem hq]
/-- the words of a throw but the four that speak of the heap -/
def vx_no (w : Cond) : Bool := decide (w ≠ .isRef (.static Bundle.tN "UNASSIGNED_STACK" Bundle.steD)) && decide (w ≠ .isRef (.static Bundle.tN "SUPPRESSED_SENTINEL" Bundle.listD)) && decide (w ≠ .laysStatic Bundle.tN "UNASSIGNED_STACK" Bundle.steD) && decide (w ≠ .laysStatic Bundle.tN "SUPPRESSED_SENTINEL" Bundle.listD)
def vx_at0 (own : String) (ic : Nat) (X : String) (names : List String) : List Cond := (Bundle.ownAtoms0 own ic X names).filter vx_no
def vx_atS (own : String) (ic : Nat) (X : String) (names : List String) : List Cond := (Bundle.ownAtoms own ic X names).filter vx_no
/-- a word that the tables alone decide, or a good one -/
def vx_ot (w : Cond) : Bool := w.onTables || goodWord w
theorem vx_ot_at {args a' : Array Value} {s U : State} {w : Cond} (hW : s.WarmedH U.vm) (hvm : s.vm = U.vm) (hg : vx_ot w = true) (h : w.before args s = true) : w.before a' U = true := by
  simp only [vx_ot, Bool.or_eq_true] at hg
  rcases hg with hg | hg
  · exact va_tabs hg hvm h
  · exact word_at hW (good_of_word hg) h
/-- a list's words: the good ones out of the method's own list, the others by premises of their own -/
theorem vx_hat {args : Array Value} {s : State} {L B : List Cond} (h1 : ∀ w ∈ L.filter goodWord, w.before args s = true) (h2 : ∀ w ∈ L.filter (fun w => !goodWord w), w ∈ B) (h3 : ∀ w ∈ B, w.before args s = true) : ∀ w ∈ L, w.before args s = true := by
  intro w hw
  by_cases g : goodWord w = true
  · exact h1 w (List.mem_filter.mpr ⟨hw, g⟩)
  · refine h3 w (h2 w (List.mem_filter.mpr ⟨hw, ?_⟩))
    show (!goodWord w) = true
    cases hgw : goodWord w
    · rfl
    · exact absurd hgw g
theorem vx_c {args : Array Value} {s : State} {w : Cond} {B : List Cond} (h : w.before args s = true) (t : ∀ w ∈ B, w.before args s = true) : ∀ w' ∈ w :: B, w'.before args s = true := fun w' h' => (List.mem_cons.mp h').elim (fun e => by rw [e]; exact h) (t w')
theorem vx_n {args : Array Value} {s : State} : ∀ w ∈ ([] : List Cond), w.before args s = true := fun _ h => nomatch h
theorem vx_own {args : Array Value} {s : State} {L : List Cond} (h1 : ∀ w ∈ L.filter vx_no, w.before args s = true)
    (hU : (Cond.isRef (.static Bundle.tN "UNASSIGNED_STACK" Bundle.steD)).before args s = true) (hN : (Cond.isRef (.static Bundle.tN "SUPPRESSED_SENTINEL" Bundle.listD)).before args s = true)
    (lU : (Cond.laysStatic Bundle.tN "UNASSIGNED_STACK" Bundle.steD).before args s = true) (lN : (Cond.laysStatic Bundle.tN "SUPPRESSED_SENTINEL" Bundle.listD).before args s = true) : ∀ w ∈ L, w.before args s = true := by
  intro w hw
  by_cases e1 : w = .isRef (.static Bundle.tN "UNASSIGNED_STACK" Bundle.steD)
  · rw [e1]; exact hU
  · by_cases e2 : w = .isRef (.static Bundle.tN "SUPPRESSED_SENTINEL" Bundle.listD)
    · rw [e2]; exact hN
    · by_cases e3 : w = .laysStatic Bundle.tN "UNASSIGNED_STACK" Bundle.steD
      · rw [e3]; exact lU
      · by_cases e4 : w = .laysStatic Bundle.tN "SUPPRESSED_SENTINEL" Bundle.listD
        · rw [e4]; exact lN
        · exact h1 w (List.mem_filter.mpr ⟨hw, by unfold vx_no; rw [decide_eq_true e1, decide_eq_true e2, decide_eq_true e3, decide_eq_true e4]; rfl⟩)
/-- where a static field lies, its class's statics cell in H -/
def vx_L (C n d : String) (A : Nat → Prop) (U : State) (H : Heap) : Prop := ∃ (c : ClassId) (k : Class) (i : Nat) (f : Field) (a : Nat) (cell : Cell), U.vm.findClass C = some c ∧ U.fieldFound? C n d = some (c, k, i, f) ∧ f.isStatic = true ∧ k.statics = some a ∧ H[a]? = some cell ∧ cell.vm.isStatics = true ∧ cell.cls = c ∧ f.slot < cell.slots.size ∧ k.staticTypes[f.slot]? = some f.type ∧ ¬ A a
theorem vx_L.moved {C n d : String} {A : Nat → Prop} {u U : State} {H : Heap} (hvm : u.vm.Alike U.vm) (h : vx_L C n d A u H) : vx_L C n d A U H := by
  obtain ⟨c, k, i, f, a, cell, h1, h2, h3, h4, h5, h6, h7, h8, h9, h10⟩ := h
  obtain ⟨k', hi', he⟩ := State.fieldFound?_setVm hvm h2
  exact ⟨c, k', i, f, a, cell, by rw [hvm.findClass]; exact h1, hi', h3, by rw [he]; exact h4, h5, h6, h7, h8, by rw [he]; exact h9, h10⟩
theorem vx_L.kept {C n d : String} {A : Nat → Prop} {U : State} {H H1 : Heap} (h : vx_L C n d A U H) (hq : ∀ a : Nat, a < H.size → ¬ A a → H1[a]? = H[a]?) : vx_L C n d A U H1 := by
  obtain ⟨c, k, i, f, a, cell, h1, h2, h3, h4, h5, h6, h7, h8, h9, h10⟩ := h
  exact ⟨c, k, i, f, a, cell, h1, h2, h3, h4, by rw [hq a (Array.getElem?_eq_some_iff.mp h5).1 h10]; exact h5, h6, h7, h8, h9, h10⟩
theorem vx_L.narrow {C n d : String} {A B : Nat → Prop} {U : State} {H : Heap} (h : vx_L C n d A U H) (hAB : ∀ q, B q → A q) : vx_L C n d B U H := by
  obtain ⟨c, k, i, f, a, cell, h1, h2, h3, h4, h5, h6, h7, h8, h9, h10⟩ := h
  exact ⟨c, k, i, f, a, cell, h1, h2, h3, h4, h5, h6, h7, h8, h9, fun z => h10 (hAB _ z)⟩
theorem vx_L.word {C n d : String} {A : Nat → Prop} {s : State} {args : Array Value} (h : vx_L C n d A s s.heap) : (Cond.laysStatic C n d).before args s = true := by
  obtain ⟨c, k, i, f, a, cell, h1, h2, h3, h4, h5, h6, h7, h8, h9, -⟩ := h
  show (Cond.laysStatic C n d).holds args s none s [] = true
  exact Cond.laysStatic_of h1 h2 h3 h4 h5 h6 h7 h8 h9
/-- .. and what it holds: null or some reference -/
def vx_Zq (C n d : String) (A : Nat → Prop) (U : State) (H : Heap) : Prop := va_Zq C n d A U H ∧ vx_L C n d A U H
theorem vx_Zq.moved {C n d : String} {A : Nat → Prop} {u U : State} {H : Heap} (hvm : u.vm.Alike U.vm) (h : vx_Zq C n d A u H) : vx_Zq C n d A U H := ⟨va_Zq.moved hvm h.1, vx_L.moved hvm h.2⟩
theorem vx_Zq.kept {C n d : String} {A : Nat → Prop} {U : State} {H H1 : Heap} (h : vx_Zq C n d A U H) (hq : ∀ a : Nat, a < H.size → ¬ A a → H1[a]? = H[a]?) : vx_Zq C n d A U H1 := ⟨va_Zq.kept h.1 hq, vx_L.kept h.2 hq⟩
theorem vx_Zq.narrow {C n d : String} {A B : Nat → Prop} {U : State} {H : Heap} (h : vx_Zq C n d A U H) (hAB : ∀ q, B q → A q) : vx_Zq C n d B U H := ⟨va_Zq.narrow h.1 hAB, vx_L.narrow h.2 hAB⟩
theorem vx_Zqof {args : Array Value} {s : State} {C n d : String} {A : Nat → Prop} (hl : (Cond.laysStatic C n d).before args s = true) (hini : (Cond.initialized C).before args s = true) (h : (Cond.isRef (.static C n d)).before args s = true) (hA : ∀ a : Nat, a < s.heap.size → ¬ A a) : vx_Zq C n d A s s.heap := by
  refine ⟨va_Zqof hl hini h hA, ?_⟩
  obtain ⟨c, k, i, f, a, cell, h1, h2, h3, h4, h5, h6, h7, h8, h9⟩ := Cond.laysStatic_spec hl
  exact ⟨c, k, i, f, a, cell, h1, h2, h3, h4, h5, h6, h7, h8, h9, hA a (Array.getElem?_eq_some_iff.mp h5).1⟩
theorem vx_isRef {C n d : String} {v : Value} {A : Nat → Prop} {s : State} {args : Array Value} (h : va_Z C n d v A s s.heap) (hv : v.isRef = true) : (Cond.isRef (.static C n d)).before args s = true := by
  obtain ⟨cf, kf, fi, f, a, cell, h1, h2, h3, h4, h5, h6, h7, -⟩ := h
  have he : (Term.static C n d).eval args s none [] s = some v := by
    simp [Term.eval, State.fieldNamed?, h1, h2, h4, h5, h6, h7]
  simp only [Cond.before, Cond.holds, Cond.value, he]
  cases v <;> simp_all [Value.isRef]
theorem vx_isRefq {C n d : String} {A : Nat → Prop} {s : State} {args : Array Value} (h : va_Zq C n d A s s.heap) : (Cond.isRef (.static C n d)).before args s = true := by
  rcases h with h | ⟨t, h⟩
  · exact vx_isRef h rfl
  · exact vx_isRef h rfl
/-- the same frame, seen from here: as if the method were called anew in this heap -/
theorem vx_rebase {T : State} (X : Stand p l e R s m args below meth c T locs cells slots) {R' : Room} (hf : R'.frames ≤ R.frames) (hl : R'.locals ≤ R.locals) (hc : cells + R'.cells ≤ R.cells) (hs : slots + R'.slots ≤ R.slots) :
    Stand p l e R' ((T.setVm s.vm).setFrames (.invoking m args :: below)) m args below meth c T [] 0 0 := by
  have htop : (T.setVm s.vm).topJava?.isSome := X.here.top
  have hF : ((T.setVm s.vm).setFrames (.invoking m args :: below)).frames = .invoking m args :: below := State.frames_setFrames _ (State.cur_lt_of_top htop)
  obtain ⟨g₀, hg0⟩ := Option.isSome_iff_exists.mp htop
  obtain ⟨r, hr⟩ := State.topJava?_eq_some.mp hg0
  have hl9 : e.platform.stackLimits (T.setVm s.vm).me = e.platform.stackLimits s.me := X.limits
  have hb9 : (T.setVm s.vm).me.stackBytes = s.me.stackBytes := X.bytes
  refine ⟨X.admits, X.cas, X.clock, hF, ?_, X.hears, X.method, X.code, X.here, X.tail, X.warmed, ?_, ?_, ?_⟩
  · have h := X.room
    have hU : ((T.setVm s.vm).setFrames (.invoking m args :: below)).localsInUse = s.localsInUse := by
      rw [State.localsInUse_invoking hF (meth := meth) (c := c) X.method X.code, State.localsInUse_invoking X.frames X.method X.code]
    simp only [State.hasRoom, Bool.and_eq_true, decide_eq_true_eq] at h ⊢
    obtain ⟨⟨⟨⟨h1, h2, h3, h4, h5, h6⟩, h7⟩, h8⟩, h9⟩ := h
    rw [X.frames, List.length_cons] at h2 h3
    have q1 := X.heapSize
    have q2 := X.used
    simp only [hF, hU, List.length_cons, State.stackLimits_setFrames, State.stackBytes_setFrames, hl9, hb9]
    refine ⟨⟨⟨⟨by omega, by omega, by omega, by omega, by omega, h6⟩, ?_⟩, ?_⟩, X.book⟩
    · show T.heap.size + R'.cells ≤ e.platform.maxCells
      omega
    · show T.slotsUsed + R'.slots ≤ e.platform.maxSlots
      omega
  · rw [State.stackLimits_setFrames]; rfl
  · rw [State.stackBytes_setFrames]; rfl
  · refine ⟨?_, Nat.le_refl _, Nat.le_refl _, ?_, ?_, fun a c9 h9 => ⟨c9, h9, rfl, rfl, fun _ _ => rfl⟩⟩
    · obtain ⟨t, ht, -⟩ := State.frames_cons hr
      show T.setVm s.vm = { ((T.setVm s.vm).setFrames (.invoking m args :: below)).setFrames (T.setVm s.vm).frames with heap := T.heap, slotsUsed := T.slotsUsed }
      rw [State.setFrames_setFrames, State.setFrames_self ht]
      rfl
    · show T.slotsUsed = T.slotsUsed + ((T.heap.toList.drop T.heap.size).map (·.slots.size)).sum
      rw [List.drop_eq_nil_of_le (Nat.le_of_eq Array.length_toList)]
      rfl
    · show ((T.heap.toList.drop T.heap.size).map (·.slots.size)).sum ≤ 0
      rw [List.drop_eq_nil_of_le (Nat.le_of_eq Array.length_toList)]
      exact Nat.le_refl _
/-- 'throw new E()': new; dup; invokespecial; athrow -/
theorem vx_throw0 {cc : ByteArray} {pc : Nat} (hexec : p.tables.exec = Jvm.exec) (hb : c.code = cc) (hl : l.stackTraces = false) {own cls : String} {names : List String} {ik ic mc ms : Nat} {A : Nat → Prop}
    (hown : s.vm.findClass own = some m.cls) (hcls : Bundle.fit cls = true) (hnames : ∀ n ∈ names, Bundle.fit n = true)
    (hk : (Cond.classLink own ik cls).before args s = true) (hini : (Cond.initialized cls).before args s = true) (hat : ∀ w ∈ vx_at0 own ic cls names, w.before args s = true)
    (hgood : ∀ w ∈ Cond.classLink own ik cls :: Cond.initialized cls :: vx_at0 own ic cls names, vx_ot w = true)
    (hU : vx_Zq Bundle.tN "UNASSIGNED_STACK" Bundle.steD A s s.heap) (hN : vx_Zq Bundle.tN "SUPPRESSED_SENTINEL" Bundle.listD A s s.heap) (hS : va_S A s.heap H locs) (hsize : ls.size = c.maxLocals)
    (d0 : decode cc pc = .ok (.new ik, 3)) (d3 : decode cc (pc + 3) = .ok (.dup, 1)) (d4 : decode cc (pc + 4) = .ok (.invokespecial ic, 3)) (d7 : decode cc (pc + 7) = .ok (.athrow, 1))
    (hout : ∀ x ∈ c.exceptionTable.toList, covers x (pc + 7) = false)
    (hRframes : names.length + 3 < R.frames) (hRlocals : (rest.map fun v => v.category).sum + (13 * (names.length + 1) + 42) ≤ R.locals) (hRcells : cells + 1 ≤ R.cells) (hRslots : slots + 6 ≤ R.slots) (hlocks : meth.locks = false)
    (hx : ∀ t : State, s.vm.Alike t.vm → H.size ≤ t.heap.size → (∀ q : Nat, q < H.size → t.heap[q]? = H[q]?) → XC cls s t)
    (hf : ∀ z ∈ locs, free z.base) (hc : cells + 1 ≤ mc) (hs : slots + 6 ≤ ms) :
    W p l e R s m args below meth c H locs cells slots (vx_MQ below Qc XC args s mc ms free) (F0 m pc ls rest) := by
  intro T hT X
  have htr : e.platform.stackTraces = false := (show e.platform.stackTraces = l.stackTraces by rw [X.admits.platform]).trans hl
  have Y := vx_rebase X (R' := { frames := R.frames, locals := R.locals, cells := 1, slots := 6 }) (Nat.le_refl _) (Nat.le_refl _) hRcells hRslots
  obtain ⟨s', hA⟩ : ∃ z, z = (T.setVm s.vm).setFrames (.invoking m args :: below) := ⟨_, rfl⟩
  rw [← hA] at Y
  have hvm : s'.vm = s.vm := by rw [hA]; rfl
  have hhp : s'.heap = H := by rw [hA]; exact hT
  have hW0 : s.WarmedH s'.vm := by rw [hvm]; exact State.WarmedH.refl s
  have hat' : ∀ w ∈ vx_at0 own ic cls names, w.before args s' = true := fun w hw => vx_ot_at hW0 hvm.symm (hgood w (List.mem_cons_of_mem _ (List.mem_cons_of_mem _ hw))) (hat w hw)
  have hk' : (Cond.classLink own ik cls).before args s' = true := vx_ot_at hW0 hvm.symm (hgood _ List.mem_cons_self) hk
  have hini' : (Cond.initialized cls).before args s' = true := vx_ot_at hW0 hvm.symm (hgood _ (List.mem_cons_of_mem _ List.mem_cons_self)) hini
  have hU' : vx_Zq Bundle.tN "UNASSIGNED_STACK" Bundle.steD A s' s'.heap := by rw [hhp]; exact vx_Zq.moved hW0.alike (hU.kept hS.2.1)
  have hN' : vx_Zq Bundle.tN "SUPPRESSED_SENTINEL" Bundle.listD A s' s'.heap := by rw [hhp]; exact vx_Zq.moved hW0.alike (hN.kept hS.2.1)
  have h : ∀ w ∈ Bundle.ownAtoms0 own ic cls names, w.before args s' = true := vx_own hat' (vx_isRefq hU'.1) (vx_isRefq hN'.1) hU'.2.word hN'.2.word
  have hown' : s'.vm.findClass own = some m.cls := by rw [hvm]; exact hown
  have hins : (Cond.instantiable cls 6).before args s' = true := h _ (by simp [Bundle.ownAtoms0])
  obtain ⟨vm₁, cX, kX, hfX, hkX, -, -, X₁, st1⟩ := Y.newCold hexec (own := own) (C := cls) (index := ik) (n := 6) hown' hk' hins hini'
    (g := F0 m pc ls rest) rfl (by rw [hb]; exact d0) (Nat.le_refl _) (Nat.le_refl _)
  generalize hT1 : (T.setVm vm₁).pushCell { cls := cX, slots := kX.instanceTypes.map defaultValue, vm := .none } = T1 at X₁ st1
  have hcat : (Value.ref T.heap.size).category = 1 := rfl
  have hcellA : T1.heap[T.heap.size]? = some (freshCell cX kX) := by rw [← hT1]; exact State.heap_pushCell_size _ _
  have d3' : decode c.code (pc + 3) = .ok (.dup, 1) := by rw [hb]; exact d3
  obtain ⟨U, hsteps, hrun, hend, hW, hsame, ce, hce, hO⟩ := X₁.ctorThrow0 hexec htr (own := own) (cls := cls) (names := names) (ic := ic) hown' hcls hnames h (fun x hx => nomatch hx) hfX hkX hcellA (by rw [hhp, hT]; exact Nat.le_refl _)
    (g := { method := m, pc := pc + 4, locals := ls, stack := .ref T.heap.size :: .ref T.heap.size :: rest, locked := none }) rfl hsize rfl rfl (rest := rest) rfl
    (by rw [hb]; exact d4) (by rw [hb]; exact d7) hout hRframes (by simp only [List.map_cons, List.sum_cons, hcat]; omega) hlocks
  obtain ⟨f1, f2⟩ := vx_frame hsame
  rw [hhp] at f1 f2
  have hWs : s.WarmedH U.vm := State.WarmedH.trans hW0 hW
  have hcl : s.vm.findClass cls = some ce.cls := by
    have h9 := hO.cls
    rw [hvm] at h9
    exact h9
  have hall : s.sameButNew ({ U with vm := s.vm } : State) locs mc ms := by
    subst hA
    obtain ⟨e1, e2⟩ := hsame
    rw [State.setFrames_setFrames] at e1
    have h2 : (T.setVm s.vm).sameButNew ({ U with vm := s.vm } : State) [] (0 + 1) (0 + 6) := ⟨e1, e2⟩
    have h3 := X.same.trans h2
    rw [List.append_nil] at h3
    exact h3.mono hc hs
  refine ⟨U, ?_, .threw T.heap.size, hrun, hend, Or.inr ⟨T.heap.size, rfl, cls, ce, locs, hx U hWs.alike f1 (fun q hq => f2 q hq (fun z hz => nomatch hz)), hce, hO.vm, hcl, hWs, hall, hf⟩⟩
  refine st1 _ ?_
  show Steps p.tables e below (T1.setTop { method := m, pc := pc + 3, locals := ls, stack := .ref T.heap.size :: rest, locked := none }) _
  jvm_step X₁.here [X₁.here.top, hexec, d3', Value.category]
  exact hsteps
/-- 'throw new E("text")': new; dup; ldc; invokespecial; athrow -/
theorem vx_throwS {cc : ByteArray} {pc : Nat} (hexec : p.tables.exec = Jvm.exec) (hb : c.code = cc) (hl : l.stackTraces = false) {own cls text : String} {names : List String} {ik is ic mc ms sa : Nat} {A : Nat → Prop}
    (hown : s.vm.findClass own = some m.cls) (hcls : Bundle.fit cls = true) (hnames : ∀ n ∈ names, Bundle.fit n = true)
    (hk : (Cond.classLink own ik cls).before args s = true) (hini : (Cond.initialized cls).before args s = true) (hstr : vk_R own is text sa s) (hat : ∀ w ∈ vx_atS own ic cls names, w.before args s = true)
    (hgood : ∀ w ∈ Cond.classLink own ik cls :: Cond.initialized cls :: vx_atS own ic cls names, vx_ot w = true)
    (hU : vx_Zq Bundle.tN "UNASSIGNED_STACK" Bundle.steD A s s.heap) (hN : vx_Zq Bundle.tN "SUPPRESSED_SENTINEL" Bundle.listD A s s.heap) (hS : va_S A s.heap H locs) (hsize : ls.size = c.maxLocals)
    (d0 : decode cc pc = .ok (.new ik, 3)) (d3 : decode cc (pc + 3) = .ok (.dup, 1)) (d4 : decode cc (pc + 4) = .ok (.ldc is, 2)) (d6 : decode cc (pc + 6) = .ok (.invokespecial ic, 3)) (d9 : decode cc (pc + 9) = .ok (.athrow, 1))
    (hout : ∀ x ∈ c.exceptionTable.toList, covers x (pc + 9) = false)
    (hRframes : names.length + 3 < R.frames) (hRlocals : (rest.map fun v => v.category).sum + (13 * (names.length + 1) + 43) ≤ R.locals) (hRcells : cells + 1 ≤ R.cells) (hRslots : slots + 6 ≤ R.slots) (hlocks : meth.locks = false)
    (hx : ∀ t : State, s.vm.Alike t.vm → H.size ≤ t.heap.size → (∀ q : Nat, q < H.size → t.heap[q]? = H[q]?) → XC cls s t)
    (hf : ∀ z ∈ locs, free z.base) (hc : cells + 1 ≤ mc) (hs : slots + 6 ≤ ms) :
    W p l e R s m args below meth c H locs cells slots (vx_MQ below Qc XC args s mc ms free) (F0 m pc ls rest) := by
  intro T hT X
  have htr : e.platform.stackTraces = false := (show e.platform.stackTraces = l.stackTraces by rw [X.admits.platform]).trans hl
  have Y := vx_rebase X (R' := { frames := R.frames, locals := R.locals, cells := 1, slots := 6 }) (Nat.le_refl _) (Nat.le_refl _) hRcells hRslots
  obtain ⟨s', hA⟩ : ∃ z, z = (T.setVm s.vm).setFrames (.invoking m args :: below) := ⟨_, rfl⟩
  rw [← hA] at Y
  have hvm : s'.vm = s.vm := by rw [hA]; rfl
  have hhp : s'.heap = H := by rw [hA]; exact hT
  have hW0 : s.WarmedH s'.vm := by rw [hvm]; exact State.WarmedH.refl s
  have hat' : ∀ w ∈ vx_atS own ic cls names, w.before args s' = true := fun w hw => vx_ot_at hW0 hvm.symm (hgood w (List.mem_cons_of_mem _ (List.mem_cons_of_mem _ hw))) (hat w hw)
  have hk' : (Cond.classLink own ik cls).before args s' = true := vx_ot_at hW0 hvm.symm (hgood _ List.mem_cons_self) hk
  have hini' : (Cond.initialized cls).before args s' = true := vx_ot_at hW0 hvm.symm (hgood _ (List.mem_cons_of_mem _ List.mem_cons_self)) hini
  have hU' : vx_Zq Bundle.tN "UNASSIGNED_STACK" Bundle.steD A s' s'.heap := by rw [hhp]; exact vx_Zq.moved hW0.alike (hU.kept hS.2.1)
  have hN' : vx_Zq Bundle.tN "SUPPRESSED_SENTINEL" Bundle.listD A s' s'.heap := by rw [hhp]; exact vx_Zq.moved hW0.alike (hN.kept hS.2.1)
  have h : ∀ w ∈ Bundle.ownAtoms own ic cls names, w.before args s' = true := vx_own hat' (vx_isRefq hU'.1) (vx_isRefq hN'.1) hU'.2.word hN'.2.word
  have hown' : s'.vm.findClass own = some m.cls := by rw [hvm]; exact hown
  have hins : (Cond.instantiable cls 6).before args s' = true := h _ (by simp [Bundle.ownAtoms])
  obtain ⟨vm₁, cX, kX, hfX, hkX, -, -, X₁, st1⟩ := Y.newCold hexec (own := own) (C := cls) (index := ik) (n := 6) hown' hk' hins hini'
    (g := F0 m pc ls rest) rfl (by rw [hb]; exact d0) (Nat.le_refl _) (Nat.le_refl _)
  generalize hT1 : (T.setVm vm₁).pushCell { cls := cX, slots := kX.instanceTypes.map defaultValue, vm := .none } = T1 at X₁ st1
  have hcat : (Value.ref T.heap.size).category = 1 := rfl
  have hcellA : T1.heap[T.heap.size]? = some (freshCell cX kX) := by rw [← hT1]; exact State.heap_pushCell_size _ _
  have d3' : decode c.code (pc + 3) = .ok (.dup, 1) := by rw [hb]; exact d3
  have d4' : decode c.code (pc + 4) = .ok (.ldc is, 2) := by rw [hb]; exact d4
  have hstr' : vk_R own is text sa s' := vk_R.warm hW0 hstr
  obtain ⟨U, hsteps, hrun, hend, hW, hsame, ce, hce, hO⟩ := X₁.ctorThrowS hexec htr (own := own) (cls := cls) (names := names) (ic := ic) hown' hcls hnames h (fun x hx => nomatch hx) hfX hkX hcellA (by rw [hhp, hT]; exact Nat.le_refl _) (msg := .ref sa) rfl
    (g := { method := m, pc := pc + 6, locals := ls, stack := .ref sa :: .ref T.heap.size :: .ref T.heap.size :: rest, locked := none }) rfl hsize rfl rfl (rest := rest) rfl
    (by rw [hb]; exact d6) (by rw [hb]; exact d9) hout hRframes (by simp only [List.map_cons, List.sum_cons, hcat]; omega) hlocks
  obtain ⟨f1, f2⟩ := vx_frame hsame
  rw [hhp] at f1 f2
  have hWs : s.WarmedH U.vm := State.WarmedH.trans hW0 hW
  have hcl : s.vm.findClass cls = some ce.cls := by
    have h9 := hO.cls
    rw [hvm] at h9
    exact h9
  have hall : s.sameButNew ({ U with vm := s.vm } : State) locs mc ms := by
    subst hA
    obtain ⟨e1, e2⟩ := hsame
    rw [State.setFrames_setFrames] at e1
    have h2 : (T.setVm s.vm).sameButNew ({ U with vm := s.vm } : State) [] (0 + 1) (0 + 6) := ⟨e1, e2⟩
    have h3 := X.same.trans h2
    rw [List.append_nil] at h3
    exact h3.mono hc hs
  refine ⟨U, ?_, .threw T.heap.size, hrun, hend, Or.inr ⟨T.heap.size, rfl, cls, ce, locs, hx U hWs.alike f1 (fun q hq => f2 q hq (fun z hz => nomatch hz)), hce, hO.vm, hcl, hWs, hall, hf⟩⟩
  refine st1 _ ?_
  show Steps p.tables e below (T1.setTop { method := m, pc := pc + 3, locals := ls, stack := .ref T.heap.size :: rest, locked := none }) _
  jvm_step X₁.here [X₁.here.top, hexec, d3', Value.category]
  exact X₁.ldcString hexec (own := own) (text := text) (index := is) (a := sa) hown' hstr'.1 hstr'.2
    (g := { method := m, pc := pc + 4, locals := ls, stack := .ref T.heap.size :: .ref T.heap.size :: rest, locked := none }) rfl d4' _ hsteps
/-- 'throw new E("text")', the text by a wide index -/
theorem vx_throwSW {cc : ByteArray} {pc : Nat} (hexec : p.tables.exec = Jvm.exec) (hb : c.code = cc) (hl : l.stackTraces = false) {own cls text : String} {names : List String} {ik is ic mc ms sa : Nat} {A : Nat → Prop}
    (hown : s.vm.findClass own = some m.cls) (hcls : Bundle.fit cls = true) (hnames : ∀ n ∈ names, Bundle.fit n = true)
    (hk : (Cond.classLink own ik cls).before args s = true) (hini : (Cond.initialized cls).before args s = true) (hstr : vk_R own is text sa s) (hat : ∀ w ∈ vx_atS own ic cls names, w.before args s = true)
    (hgood : ∀ w ∈ Cond.classLink own ik cls :: Cond.initialized cls :: vx_atS own ic cls names, vx_ot w = true)
    (hU : vx_Zq Bundle.tN "UNASSIGNED_STACK" Bundle.steD A s s.heap) (hN : vx_Zq Bundle.tN "SUPPRESSED_SENTINEL" Bundle.listD A s s.heap) (hS : va_S A s.heap H locs) (hsize : ls.size = c.maxLocals)
    (d0 : decode cc pc = .ok (.new ik, 3)) (d3 : decode cc (pc + 3) = .ok (.dup, 1)) (d4 : decode cc (pc + 4) = .ok (.ldc_w is, 3)) (d7 : decode cc (pc + 7) = .ok (.invokespecial ic, 3)) (d10 : decode cc (pc + 10) = .ok (.athrow, 1))
    (hout : ∀ x ∈ c.exceptionTable.toList, covers x (pc + 10) = false)
    (hRframes : names.length + 3 < R.frames) (hRlocals : (rest.map fun v => v.category).sum + (13 * (names.length + 1) + 43) ≤ R.locals) (hRcells : cells + 1 ≤ R.cells) (hRslots : slots + 6 ≤ R.slots) (hlocks : meth.locks = false)
    (hx : ∀ t : State, s.vm.Alike t.vm → H.size ≤ t.heap.size → (∀ q : Nat, q < H.size → t.heap[q]? = H[q]?) → XC cls s t)
    (hf : ∀ z ∈ locs, free z.base) (hc : cells + 1 ≤ mc) (hs : slots + 6 ≤ ms) :
    W p l e R s m args below meth c H locs cells slots (vx_MQ below Qc XC args s mc ms free) (F0 m pc ls rest) := by
  intro T hT X
  have htr : e.platform.stackTraces = false := (show e.platform.stackTraces = l.stackTraces by rw [X.admits.platform]).trans hl
  have Y := vx_rebase X (R' := { frames := R.frames, locals := R.locals, cells := 1, slots := 6 }) (Nat.le_refl _) (Nat.le_refl _) hRcells hRslots
  obtain ⟨s', hA⟩ : ∃ z, z = (T.setVm s.vm).setFrames (.invoking m args :: below) := ⟨_, rfl⟩
  rw [← hA] at Y
  have hvm : s'.vm = s.vm := by rw [hA]; rfl
  have hhp : s'.heap = H := by rw [hA]; exact hT
  have hW0 : s.WarmedH s'.vm := by rw [hvm]; exact State.WarmedH.refl s
  have hat' : ∀ w ∈ vx_atS own ic cls names, w.before args s' = true := fun w hw => vx_ot_at hW0 hvm.symm (hgood w (List.mem_cons_of_mem _ (List.mem_cons_of_mem _ hw))) (hat w hw)
  have hk' : (Cond.classLink own ik cls).before args s' = true := vx_ot_at hW0 hvm.symm (hgood _ List.mem_cons_self) hk
  have hini' : (Cond.initialized cls).before args s' = true := vx_ot_at hW0 hvm.symm (hgood _ (List.mem_cons_of_mem _ List.mem_cons_self)) hini
  have hU' : vx_Zq Bundle.tN "UNASSIGNED_STACK" Bundle.steD A s' s'.heap := by rw [hhp]; exact vx_Zq.moved hW0.alike (hU.kept hS.2.1)
  have hN' : vx_Zq Bundle.tN "SUPPRESSED_SENTINEL" Bundle.listD A s' s'.heap := by rw [hhp]; exact vx_Zq.moved hW0.alike (hN.kept hS.2.1)
  have h : ∀ w ∈ Bundle.ownAtoms own ic cls names, w.before args s' = true := vx_own hat' (vx_isRefq hU'.1) (vx_isRefq hN'.1) hU'.2.word hN'.2.word
  have hown' : s'.vm.findClass own = some m.cls := by rw [hvm]; exact hown
  have hins : (Cond.instantiable cls 6).before args s' = true := h _ (by simp [Bundle.ownAtoms])
  obtain ⟨vm₁, cX, kX, hfX, hkX, -, -, X₁, st1⟩ := Y.newCold hexec (own := own) (C := cls) (index := ik) (n := 6) hown' hk' hins hini'
    (g := F0 m pc ls rest) rfl (by rw [hb]; exact d0) (Nat.le_refl _) (Nat.le_refl _)
  generalize hT1 : (T.setVm vm₁).pushCell { cls := cX, slots := kX.instanceTypes.map defaultValue, vm := .none } = T1 at X₁ st1
  have hcat : (Value.ref T.heap.size).category = 1 := rfl
  have hcellA : T1.heap[T.heap.size]? = some (freshCell cX kX) := by rw [← hT1]; exact State.heap_pushCell_size _ _
  have d3' : decode c.code (pc + 3) = .ok (.dup, 1) := by rw [hb]; exact d3
  have d4' : decode c.code (pc + 4) = .ok (.ldc_w is, 3) := by rw [hb]; exact d4
  have hstr' : vk_R own is text sa s' := vk_R.warm hW0 hstr
  obtain ⟨U, hsteps, hrun, hend, hW, hsame, ce, hce, hO⟩ := X₁.ctorThrowS hexec htr (own := own) (cls := cls) (names := names) (ic := ic) hown' hcls hnames h (fun x hx => nomatch hx) hfX hkX hcellA (by rw [hhp, hT]; exact Nat.le_refl _) (msg := .ref sa) rfl
    (g := { method := m, pc := pc + 7, locals := ls, stack := .ref sa :: .ref T.heap.size :: .ref T.heap.size :: rest, locked := none }) rfl hsize rfl rfl (rest := rest) rfl
    (by rw [hb]; exact d7) (by rw [hb]; exact d10) hout hRframes (by simp only [List.map_cons, List.sum_cons, hcat]; omega) hlocks
  obtain ⟨f1, f2⟩ := vx_frame hsame
  rw [hhp] at f1 f2
  have hWs : s.WarmedH U.vm := State.WarmedH.trans hW0 hW
  have hcl : s.vm.findClass cls = some ce.cls := by
    have h9 := hO.cls
    rw [hvm] at h9
    exact h9
  have hall : s.sameButNew ({ U with vm := s.vm } : State) locs mc ms := by
    subst hA
    obtain ⟨e1, e2⟩ := hsame
    rw [State.setFrames_setFrames] at e1
    have h2 : (T.setVm s.vm).sameButNew ({ U with vm := s.vm } : State) [] (0 + 1) (0 + 6) := ⟨e1, e2⟩
    have h3 := X.same.trans h2
    rw [List.append_nil] at h3
    exact h3.mono hc hs
  refine ⟨U, ?_, .threw T.heap.size, hrun, hend, Or.inr ⟨T.heap.size, rfl, cls, ce, locs, hx U hWs.alike f1 (fun q hq => f2 q hq (fun z hz => nomatch hz)), hce, hO.vm, hcl, hWs, hall, hf⟩⟩
  refine st1 _ ?_
  show Steps p.tables e below (T1.setTop { method := m, pc := pc + 3, locals := ls, stack := .ref T.heap.size :: rest, locked := none }) _
  jvm_step X₁.here [X₁.here.top, hexec, d3', Value.category]
  exact X₁.ldcStringW hexec (own := own) (text := text) (index := is) (a := sa) hown' hstr'.1 hstr'.2
    (g := { method := m, pc := pc + 4, locals := ls, stack := .ref T.heap.size :: .ref T.heap.size :: rest, locked := none }) rfl d4' _ hsteps
end Ends
section Bodies
variable {l : Launch}
theorem vx_ofW {y : MethodName} {ws ws' : List Cond} {rm : Room} {Pc : Array Value → State → Prop} {Qc : Array Value → State → Outcome → State → Prop} {XC : String → State → State → Prop} {mc ms : Nat} {free : Addr → Prop} {cc : ByteArray} {maxL : Nat} {ret : Option FieldType}
    (hy : plainName y.cls = true) (hw : ws = Cond.code y cc maxL ret :: ws')
    (body : ∀ p e s m args below meth c s₁, BodyLoose p l y (headSpec ws rm) cc maxL ret e s m args below meth c s₁ → c.maxLocals = maxL → (∀ x ∈ c.exceptionTable.toList, False) → Pc args s →
      W p l e (headSpec ws rm).room s m args below meth c s.heap [] 0 0 (vx_MQ below Qc XC args s mc ms free) (entryFrame m args maxL)) : vx_Met l y ws rm Pc Qc XC mc ms free := by
  refine MetFree.of_bodyS (code := cc) (maxLocals := maxL) (ret := ret) hy ?_ ?_
  · intro args s m h hn
    obtain ⟨meth, c, h1, h2, h3, h4, h5, h6, -, -⟩ := Cond.code_spec hn (atoms_spec (ws := ws) h _ (by rw [hw]; exact List.mem_cons_self))
    exact ⟨meth, c, h1, h2, h3, h4, h5, h6⟩
  · intro p e s m args below meth c s₁ B hml hP _
    have hh0 : s₁.heap = s.heap := by rw [B.state]; rfl
    have ht : ∀ x ∈ c.exceptionTable.toList, False := by
      obtain ⟨meth9, c9, h1, h2, -, -, -, -, h7, -⟩ := Cond.code_spec B.named (atoms_spec (ws := ws) B.pre _ (by rw [hw]; exact List.mem_cons_self))
      cases Option.some.inj (h1.symm.trans B.method)
      cases Option.some.inj (h2.symm.trans (Stand.of_body B).code)
      intro x hx
      rw [Array.isEmpty_iff.mp h7] at hx
      cases hx
    obtain ⟨t, a1, o, b1, b2, b3⟩ := body p e s m args below meth c s₁ B hml ht hP s₁ hh0 (Stand.of_body B)
    exact ⟨t, o, a1, b1, b2, b3⟩
/-- the table of a body with handlers -/
theorem vx_table {p : Program} {x y : MethodName} {S : Spec} {cc bytes : ByteArray} {maxL maxL' : Nat} {ret ret' : Option FieldType} {e : Env} {s s₁ : State} {m : MethodId} {args : Array Value} {below : List Frame} {meth : Method} {c : Code} {hh : List (Nat × Nat × Nat × Nat)}
    (B : BodyLoose p l y S cc maxL ret e s m args below meth c s₁) (h : (Cond.codeWith y bytes maxL' ret' hh).before args s = true) : c.exceptionTable.toList = tableOf hh := by
  obtain ⟨m9, meth9, c9, hn9, h1, h2, -, -, h6, -⟩ := Cond.codeWith_spec h
  cases Option.some.inj (hn9.symm.trans B.named)
  cases Option.some.inj (h1.symm.trans B.method)
  cases Option.some.inj (h2.symm.trans (Stand.of_body B).code)
  rw [← h6, table_eq]
end Bodies
end VXA
/-! ===== END ===== -/
/-! ===== BEGIN a static call of a method with an exception table ===== -/
section VXS
variable {p : Program} {l : Launch} {e : Env} {R : Room} {s : State} {m : MethodId} {args : Array Value} {below : List Frame} {meth : Method} {c : Code} {T : State} {H : Heap} {locs : List Loc} {cells slots : Nat}
abbrev vx_CSW (R : Room) (s : State) (args : Array Value) (own : String) (index : Nat) (y : MethodName) (bytes : ByteArray) (maxL : Nat) (ret : Option FieldType) (hh : List (Nat × Nat × Nat × Nat)) (ws : List Cond) (rm : Room) (mc ms n : Nat) : Prop :=
  (rm.cells = mc ∧ rm.slots = ms ∧ rm.frames + 1 ≤ R.frames ∧ 8 + (maxL + 11) + rm.locals ≤ R.locals ∧ (∀ w ∈ ws, ∀ (a' : Array Value) (U : State), s.WarmedH U.vm → w.before a' U = true) ∧ Cond.codeWith y bytes maxL ret hh ∈ ws) ∧
  (Cond.codeWith y bytes maxL ret hh).before args s = true ∧ (Cond.initialized y.cls).before args s = true ∧ (y.cls ≠ "java/lang/invoke/MethodHandle" ∧ y.cls ≠ "java/lang/invoke/VarHandle") ∧
  (∀ sig, parseMethodDescriptor y.desc = some sig → n = sig.parameters.length) ∧ (Cond.methodLink own index y).before args s = true ∧ (Cond.static y).before args s = true
theorem vx_cwSW {own : String} {index maxL mc ms : Nat} {y : MethodName} {bytes : ByteArray} {ret : Option FieldType} {hh : List (Nat × Nat × Nat × Nat)} {Ts ws ws' : List Cond} {rm : Room} (n : Nat) (ht : ∀ w ∈ Ts, w.before args s = true) (hT : GoodIn Ts (va_wsS own index y ws)) (hw : ws = Cond.codeWith y bytes maxL ret hh :: ws') (hrc : rm.cells = mc) (hrs : rm.slots = ms)
    (hd : y.cls ≠ "java/lang/invoke/MethodHandle" ∧ y.cls ≠ "java/lang/invoke/VarHandle" ∧ (parseMethodDescriptor y.desc).map (fun d => d.parameters.length) = some n) (hR : rm.frames + 1 ≤ R.frames ∧ 8 + (maxL + 11) + rm.locals ≤ R.locals) :
    vx_CSW R s args own index y bytes maxL ret hh ws rm mc ms n := by
  have ok : ∀ w ∈ va_wsS own index y ws, w.before args s = true := fun w h => ht w (hT w h).1
  have hG : GoodIn Ts ws := fun w h => hT w (by unfold va_wsS; exact List.mem_append_right _ h)
  have hc : Cond.codeWith y bytes maxL ret hh ∈ ws := by rw [hw]; exact List.mem_cons_self
  refine ⟨⟨hrc, hrs, hR.1, hR.2, pay_in ht hG, hc⟩, ht _ (hG _ hc).1, ok _ (by simp [va_wsS]), ⟨hd.1, hd.2.1⟩, fun sig h => ?_, ok _ (by simp [va_wsS]), ok _ (by simp [va_wsS])⟩
  have h2 := hd.2.2
  rw [h] at h2
  exact (Option.some.inj h2).symm
theorem vx_callSW (X : Stand p l e R s m args below meth c T locs cells slots) (hexec : p.tables.exec = Jvm.exec) {own : String} {index : Nat} {y : MethodName} {bytes : ByteArray} {maxL : Nat} {ret : Option FieldType} {hh : List (Nat × Nat × Nat × Nat)}
    (hown : s.vm.findClass own = some m.cls) (hlink : (Cond.methodLink own index y).before args s = true) (hstat : (Cond.static y).before args s = true) (hinit : (Cond.initialized y.cls).before args s = true)
    (hcode : (Cond.codeWith y bytes maxL ret hh).before args s = true) (hy : y.cls ≠ "java/lang/invoke/MethodHandle" ∧ y.cls ≠ "java/lang/invoke/VarHandle")
    {W9 : Nat} {Pre : Pt → Array Value → Prop} {Post : Pt → Array Value → Option Value → Pt → Prop} (hK : Back l R p e below s args y 3 W9 Pre Post)
    {g : JFrame} (hg : g.method = m) (hsize : g.locals.size = c.maxLocals) {argsL rest : List Value} (hlen : ∀ sig, parseMethodDescriptor y.desc = some sig → argsL.length = sig.parameters.length)
    (hstack : g.stack = argsL.reverse ++ rest) (hW : 2 * g.monitorRoom + (rest.map fun v => v.category).sum ≤ W9) (hdg : decode c.code g.pc = .ok (.invokestatic index, 3))
    (hpre : ∀ vm₁, s.WarmedH vm₁ → Pre ⟨T.setVm vm₁, locs, cells, slots⟩ argsL.toArray) :
    ∃ (v : Option Value) (vm₁ : Vm) (B : Pt), s.WarmedH vm₁ ∧ Stand p l e R s m args below meth c B.U B.locs B.cells B.slots ∧ Post ⟨T.setVm vm₁, locs, cells, slots⟩ argsL.toArray v B ∧
      ∀ target, Steps p.tables e below (B.U.setTop { g with pc := g.pc + 3, stack := v.toList ++ rest }) target → Steps p.tables e below (T.setTop g) target := by
  obtain ⟨mk, methM, cM, hnamed, hmethM, -, -, -, -, -, -, hsigM⟩ := Cond.codeWith_spec hcode
  have hstatic : methM.isStatic = true := Cond.static_spec hnamed hmethM hstat
  obtain ⟨kP, hkP, -⟩ := className_of_methodNamed hnamed
  have hinitP : kP.init = .initialized := Cond.initialized_spec (findClass_of_methodNamed hnamed) hkP hinit
  obtain ⟨vm₁, X₁, hstep₁⟩ := X.invokestatic hexec hown hlink hnamed hmethM hstatic hkP hinitP hy (g := g) hg (argsL := argsL) (rest := rest) (hlen _ hsigM) hstack hdg
  obtain ⟨v, B, X', hpost, hsteps⟩ := hK m meth c ⟨T.setVm vm₁, locs, cells, slots⟩ { g with stack := rest } (.invokestatic index) mk argsL.toArray X₁ hg hsize hdg hW (X₁.named hnamed) (hpre vm₁ X₁.warmed)
  exact ⟨v, vm₁, B, X₁.warmed, X', hpost, fun target h => hstep₁ _ fun acts => by rw [doInvoke_state]; exact hsteps.trans h⟩
theorem vx_runSW {y : MethodName} {bytes cc : ByteArray} {maxL nL mc ms n index : Nat} {ret : Option FieldType} {hh : List (Nat × Nat × Nat × Nat)} {ws : List Cond} {rm : Room} {Pc : Array Value → State → Prop} {Qc : Array Value → State → Outcome → State → Prop} {free : Addr → Prop} {Ts : List Cond} {own : String} {As rest : List Value} {g : JFrame}
    (S : CallFix p m c cc nL s args Ts own) (hM : Met l y ws rm Pc Qc mc ms free) (cw : vx_CSW R s args own index y bytes maxL ret hh ws rm mc ms n) (hp : PreS s H Pc As)
    (hg : g.method = m) (hn : As.length = n) (hsize : g.locals.size = nL) (hstack : g.stack = As.reverse ++ rest) (hW : 2 * g.monitorRoom + (rest.map fun v => v.category).sum ≤ 8) (hdg : decode cc g.pc = .ok (.invokestatic index, 3)) (hf : cells + mc ≤ R.cells ∧ slots + ms ≤ R.slots) :
    va_Run p l e R s m args below meth c H locs cells slots mc ms g rest (Qc As.toArray) (free) := by
  obtain ⟨⟨hrc, hrs, hfr, hlo, hws, hcw⟩, hcode, hini, hy, hlen, hl, hstt⟩ := cw
  have hK : Back l R p e below s args y 3 8 (PreOf R mc ms Pc) (PostOf Qc mc ms free) := va_backW (hh := hh) (bytes := bytes) (maxL := maxL) (ret := ret) hM hp.1 hrc hrs hfr hlo hws hcw (fun a' U hW => word_at hW (Or.inl (by first | rfl | simp [Cond.onTables, Cond.keeps, Cond.steady])) hini)
  obtain ⟨hx, hb, hml, ho, -⟩ := S
  intro T hT X
  obtain ⟨v, vm₁, ⟨U', l2, c2, s2⟩, hW₁, X', ⟨g', mk, t, L, e1, e2, hq, h1, hL, h2, h3⟩, st⟩ := vx_callSW X hx (hh := hh) (bytes := bytes) (maxL := maxL) (ret := ret) ho hl hstt hini hcode hy hK hg (hsize.trans hml.symm) (argsL := As) (rest := rest) (fun sig h => hn.trans (hlen sig h)) hstack hW (by rw [hb]; exact hdg)
    (fun vm₁ hW₁ => ⟨hf.1, hf.2, hp.2 (T.setVm vm₁) hT hW₁⟩)
  dsimp only [Pt.U, Pt.locs, Pt.cells, Pt.slots] at X' e1 e2 h1 h2 h3 st
  subst h1; subst h2; subst h3
  exact ⟨v, (T.setVm vm₁).calling g' mk As.toArray, t, U', L, hT, X', hL, e1, e2, hq, st⟩
/-- not caught here, past rows that name other classes: it goes on to the caller -/
theorem vx_outP {p : Program} {l : Launch} {e : Env} {R : Room} {s : State} {m : MethodId} {args : Array Value} {below : List Frame} {meth : Method} {c : Code} {H : Heap} {locs : List Loc} {cells slots : Nat} {free : Addr → Prop} {ls : Array Slot} {rest : List Value} {Qc : Array Value → State → Outcome → State → Prop} {XC : String → State → State → Prop}
    {pc : Nat} {own E : String} {ce : Cell} {q : Addr} {mc ms : Nat} (hown : s.vm.findClass own = some m.cls) (hlocks : meth.locks = false)
    (hpass : ∀ z ∈ c.exceptionTable.toList, covers z pc = false ∨ (z.catchType ≠ 0 ∧ ∃ nm : String, (Cond.classLink own z.catchType nm).before args s = true ∧ va_Nc E nm s)) (hcell : H[q]? = some ce) (hv : ce.vm = .none) (hcl : s.vm.findClass E = some ce.cls)
    (hx : ∀ t : State, t.heap = H → s.vm.Alike t.vm → XC E s t) (hf : ∀ z ∈ locs, free z.base) (hc : cells ≤ mc) (hs : slots ≤ ms) :
    vx_W p l e R s m args below meth c H locs cells slots (vx_MQ below Qc XC args s mc ms free) (F0 m pc ls rest) q := by
  intro T hT X
  have hpl : e.platform.magicAccessors = ({} : Platform).magicAccessors := by rw [X.admits.platform]
  obtain ⟨vm', hW', X', st⟩ := X.outThrough hlocks q (g := F0 m pc ls rest) rfl rfl rfl (cell := ce) (by rw [hT]; exact hcell) (by rw [hv]; rfl)
    (by obtain ⟨k9, h9, -⟩ := Vm.findClass_spec hcl; exact ⟨k9, h9⟩) (fun z hz => by
      rcases hpass z hz with h | ⟨hz0, nm, hl1, hn1⟩
      · exact Or.inl h
      · obtain ⟨c6, hc6, hcl6⟩ := Cond.classLink_spec hown hl1 e.platform hpl
        obtain ⟨a8, b8, h1, h2, h3⟩ := hn1
        cases Option.some.inj (h1.symm.trans hcl)
        cases Option.some.inj (h2.symm.trans hc6)
        exact Or.inr ⟨hz0, _, hcl6, h3⟩)
  obtain ⟨g₀, hfr⟩ := X'.frames_eq
  have hcell9 : ((T.setVm vm').setFrames (.throwing q :: below)).heap[q]? = some ce := by
    show T.heap[q]? = some ce
    rw [hT]; exact hcell
  have hend : Ended ((T.setVm vm').setFrames (.throwing q :: below)) below (.threw q) := State.frames_setFrames _ (State.cur_lt_of_frames hfr)
  refine ⟨(T.setVm vm').setFrames (.throwing q :: below), ?_, .threw q, X'.here.running, hend, Or.inr ⟨q, rfl, E, ce, locs, hx _ hT (X'.ends _).1.alike, hcell9, hv, hcl, (X'.ends _).1, (X'.ends _).2.mono hc hs, hf⟩⟩
  rw [X.pushThrowing_eq]
  exact st
/-- a thing of a world lies in the heap -/
theorem vx_lt {D : va_G} {cl : List vw_C} {ws : va_W} {H1 : Heap} (h : va_P D cl ws H1) {k : Nat} {q : Nat × va_E} (hk : ws[k]? = some q) : q.1 < H1.size := (h k q hk).lt
end VXS
/-! ===== END ===== -/
/-! ===== BEGIN methods with a table of their own: called by a name, returning or throwing ===== -/
section VXH
/-! vx_backW, vx_callVX, vx_callSX, vx_callVW, vx_runVW, vx_runVX, vx_runSX, vx_ofWH follow the same proofs as their sisters above (Free/Laws.lean, Shelf42/LK1.lean); vx_outP calls Shelf42/NT130.lean (outThrough). -/
section
variable {l : Launch} {R : Room} {p : Program} {e : Env} {below : List Frame} {s : State} {sargs : Array Value} {y : MethodName} {len W9 : Nat}
theorem vx_backW {ws : List Cond} {rm : Room} {Pc : Array Value → State → Prop} {Qc : Array Value → State → Outcome → State → Prop} {XC : String → State → State → Prop} {mc ms : Nat} {free : Addr → Prop} {bytes : ByteArray} {maxL : Nat} {ret : Option FieldType} {hh : List (Nat × Nat × Nat × Nat)}
    (hM : vx_Met l y ws rm Pc Qc XC mc ms free) (hblind : FrameBlind Pc) (hrc : rm.cells = mc) (hrs : rm.slots = ms)
    (hframes : rm.frames + 1 ≤ R.frames) (hlocals : W9 + (maxL + 11) + rm.locals ≤ R.locals)
    (hws : ∀ w ∈ ws, ∀ a' U, s.WarmedH U.vm → w.before a' U = true) (hcode : Cond.codeWith y bytes maxL ret hh ∈ ws) (hinit : ∀ a' U, s.WarmedH U.vm → (Cond.initialized y.cls).before a' U = true) :
    vx_Back l R p e below s sargs y len W9 (PreOf R mc ms Pc) (PostOf Qc mc ms free) (vx_Post XC mc ms free) := by
  intro m meth c A g ig mk a X hg hsize hdg hW hn hp
  have h1 : (headSpec ws rm).pre.before a A.U = true := atoms_intro fun w hw => hws w hw _ _ X.warmed
  have h2 : (Cond.codeWith y bytes maxL ret hh).before a A.U = true := hws _ hcode _ _ X.warmed
  have h3 : (Cond.initialized y.cls).before a A.U = true := hinit _ _ X.warmed
  have h4 : A.cells + (headSpec ws rm).room.cells ≤ R.cells := by rw [show (headSpec ws rm).room.cells = mc from hrc]; exact hp.1
  have h5 : A.slots + (headSpec ws rm).room.slots ≤ R.slots := by rw [show (headSpec ws rm).room.slots = ms from hrs]; exact hp.2.1
  have hPc : Pc a (A.U.calling g mk a) := hblind _ _ _ _ hp.2.2
  obtain ⟨U, Ls, c0, s0⟩ := A
  dsimp only [Pt.U, Pt.locs, Pt.cells, Pt.slots] at h1 h2 h3 h4 h5 X hn hPc ⊢
  obtain ⟨m9, methY, cY, hn9, hmY, hcY, -, hlY, -⟩ := Cond.codeWith_spec h2
  cases Option.some.inj (hn9.symm.trans hn)
  obtain ⟨kY, hkY, -⟩ := className_of_methodNamed hn
  have hinitY : kY.init = .initialized := Cond.initialized_spec (findClass_of_methodNamed hn) hkY h3
  have h : At U g.method c below := by rw [hg]; exact X.here
  have hlocals9 : W9 + (maxL + 11) + (headSpec ws rm).room.locals ≤ R.locals := hlocals
  have happ : (headSpec ws rm).appliesLoose y e.platform (U.calling g mk a) = true :=
    Spec.appliesLoose_calling (g := g) h hdg hn hkY hinitY
      (X.room_calling (g := g) (R' := (headSpec ws rm).room) hsize hmY hcY hframes (by rw [hlY]; omega) h4 h5) h1
  obtain ⟨mid, hmid⟩ := h.above
  have hfr : (U.setTop g).frames = (.java g :: mid) ++ below := by rw [State.frames_setTop' g h.top, hmid]; rfl
  obtain ⟨o, s₂, hsteps, -, hend, hq⟩ := Steps.callFree hM p X.admits X.cas X.clock (acts := []) hfr happ hPc trivial
  have hq' : vx_Q Qc XC mc ms free a (U.calling g mk a) o s₂ := hq
  rw [State.frames_setTop' g h.top] at hend
  obtain ⟨g₀, hg0⟩ := Option.isSome_iff_exists.mp h.top
  obtain ⟨r, hr⟩ := State.topJava?_eq_some.mp hg0
  have hr' : (({ U with heap := s₂.heap, slotsUsed := s₂.slotsUsed } : State).setVm s₂.vm).frames = .java g₀ :: r := hr
  rcases hq' with ⟨hqc, L, hfe, hL⟩ | ⟨q, rfl, E, ce, L, hx, hce, hcv, hcl, hW₂, hsm, hL⟩
  · obtain ⟨⟨v, rfl⟩, hW₂, e2, q2, q3, q4, q5, q6⟩ := id hfe
    have e3 : s₂ = ({ (U.calling g mk a).setFrames s₂.frames with heap := s₂.heap, slotsUsed := s₂.slotsUsed } : State).setVm s₂.vm := by
      have : s₂ = ({ s₂ with vm := (U.calling g mk a).vm } : State).setVm s₂.vm := rfl
      rw [e2] at this
      exact this
    obtain ⟨c₂, i₂, len₂, hc₂, hd₂, hf₂⟩ := hend
    have hW' : U.WarmedH s₂.vm := hW₂
    have hcc : c₂ = c := by
      have h1 : s₂.code? g.method = U.code? g.method := by
        rw [State.code?_eq, State.code?_eq, hW'.alike.method?]
      exact Option.some.inj (hc₂.symm.trans (h1.trans h.code))
    subst hcc
    have hlen : len₂ = len := by rw [hdg] at hd₂; cases hd₂; rfl
    subst hlen
    have hs₂ : s₂ = (({ U with heap := s₂.heap, slotsUsed := s₂.slotsUsed } : State).setVm s₂.vm).setTop { g with pc := g.pc + len₂, stack := v.toList ++ g.stack } := by
      refine e3.trans ?_
      rw [hf₂, State.calling_eq h.top, State.setFrames_setFrames, State.setTop_of_frames _ hr', hr]
      rfl
    have hsame : U.sameButNew ({ U with heap := s₂.heap, slotsUsed := s₂.slotsUsed } : State) L mc ms := by
      refine ⟨?_, q2, q3, q4, q5, q6⟩
      obtain ⟨t, ht, -⟩ := State.frames_cons hr
      show ({ U with heap := s₂.heap, slotsUsed := s₂.slotsUsed } : State) = { U.setFrames U.frames with heap := s₂.heap, slotsUsed := s₂.slotsUsed }
      rw [State.setFrames_self ht]
    subst hg
    refine Or.inl ⟨v, ⟨(({ U with heap := s₂.heap, slotsUsed := s₂.slotsUsed } : State).setVm s₂.vm), Ls ++ L, c0 + mc, s0 + ms⟩,
      ⟨X.admits, X.cas, X.clock, X.frames, X.room, X.hears, X.method, X.code, (X.here.setHeapUsed s₂.heap s₂.slotsUsed).setVm hW'.alike, X.tail, State.WarmedH.trans X.warmed hW', X.limits, X.bytes, X.same.trans (hsame.setVm s.vm)⟩,
      ⟨g, mk, s₂, L, rfl, rfl, hqc, rfl, hL, rfl, rfl⟩, ?_⟩
    show Steps p.tables e below _ ((({ U with heap := s₂.heap, slotsUsed := s₂.slotsUsed } : State).setVm s₂.vm).setTop { g with pc := g.pc + len₂, stack := v.toList ++ g.stack })
    rw [← hs₂]
    exact hsteps
  · obtain ⟨e2, q2, q3, q4, q5, q6⟩ := id hsm
    have e3 : s₂ = ({ (U.calling g mk a).setFrames s₂.frames with heap := s₂.heap, slotsUsed := s₂.slotsUsed } : State).setVm s₂.vm := by
      have : s₂ = ({ s₂ with vm := (U.calling g mk a).vm } : State).setVm s₂.vm := rfl
      rw [e2] at this
      exact this
    have hf₂ : s₂.frames = .throwing q :: .java g :: U.frames.tail := hend
    have hW' : U.WarmedH s₂.vm := hW₂
    have hs₂ : s₂ = ((({ U with heap := s₂.heap, slotsUsed := s₂.slotsUsed } : State).setVm s₂.vm).setTop g).pushFrame (.throwing q) := by
      refine e3.trans ?_
      rw [hf₂, State.calling_eq h.top, State.setFrames_setFrames, State.pushFrame, State.frames_setTop _ hr', State.setTop_of_frames _ hr', State.setFrames_setFrames, hr]
      rfl
    have hsame : U.sameButNew ({ U with heap := s₂.heap, slotsUsed := s₂.slotsUsed } : State) L mc ms := by
      refine ⟨?_, q2, q3, q4, q5, q6⟩
      obtain ⟨t, ht, -⟩ := State.frames_cons hr
      show ({ U with heap := s₂.heap, slotsUsed := s₂.slotsUsed } : State) = { U.setFrames U.frames with heap := s₂.heap, slotsUsed := s₂.slotsUsed }
      rw [State.setFrames_self ht]
    subst hg
    refine Or.inr ⟨q, ⟨(({ U with heap := s₂.heap, slotsUsed := s₂.slotsUsed } : State).setVm s₂.vm), Ls ++ L, c0 + mc, s0 + ms⟩,
      ⟨X.admits, X.cas, X.clock, X.frames, X.room, X.hears, X.method, X.code, (X.here.setHeapUsed s₂.heap s₂.slotsUsed).setVm hW'.alike, X.tail, State.WarmedH.trans X.warmed hW', X.limits, X.bytes, X.same.trans (hsame.setVm s.vm)⟩,
      ⟨g, mk, s₂, L, E, ce, rfl, rfl, hx, hce, hcv, hcl, rfl, hL, rfl, rfl⟩, ?_⟩
    show Steps p.tables e below _ (((({ U with heap := s₂.heap, slotsUsed := s₂.slotsUsed } : State).setVm s₂.vm).setTop g).pushFrame (.throwing q))
    rw [← hs₂]
    exact hsteps
end
variable {p : Program} {l : Launch} {e : Env} {R : Room} {s : State} {m : MethodId} {args : Array Value} {below : List Frame} {meth : Method} {c : Code} {T : State} {H : Heap} {locs : List Loc} {cells slots : Nat}
theorem vx_callVX (X : Stand p l e R s m args below meth c T locs cells slots) (hexec : p.tables.exec = Jvm.exec) {own C : String} {index : Nat} {y : MethodName} {bytes : ByteArray} {maxL : Nat} {ret : Option FieldType} {hh : List (Nat × Nat × Nat × Nat)}
    (hown : s.vm.findClass own = some m.cls) (hlink : (Cond.methodLink own index y).before args s = true) (hinst : (Cond.instanceMethod y).before args s = true) (hsel : (Cond.selects C y y).before args s = true)
    (hcode : (Cond.codeWith y bytes maxL ret hh).before args s = true) (hy : y.cls ≠ "java/lang/invoke/MethodHandle" ∧ y.cls ≠ "java/lang/invoke/VarHandle")
    {W9 : Nat} {Pre : Pt → Array Value → Prop} {Post : Pt → Array Value → Option Value → Pt → Prop} {PostX : Pt → Array Value → Addr → Pt → Prop} (hK : vx_Back l R p e below s args y 3 W9 Pre Post PostX)
    {b : Addr} {cellB : Cell} (hcell : T.heap[b]? = some cellB) (hobj : cellB.vm.isStatics = false) (hcls : s.vm.findClass C = some cellB.cls)
    {g : JFrame} (hg : g.method = m) (hsize : g.locals.size = c.maxLocals) {argsL rest : List Value} (hlen : ∀ sig, parseMethodDescriptor y.desc = some sig → argsL.length = sig.parameters.length)
    (hstack : g.stack = argsL.reverse ++ .ref b :: rest) (hW : 2 * g.monitorRoom + (rest.map fun v => v.category).sum ≤ W9) (hdg : decode c.code g.pc = .ok (.invokevirtual index, 3))
    (hpre : ∀ vm₁, s.WarmedH vm₁ → Pre ⟨T.setVm vm₁, locs, cells, slots⟩ (Value.ref b :: argsL).toArray) :
    (∃ (v : Option Value) (vm₁ : Vm) (B : Pt), s.WarmedH vm₁ ∧ Stand p l e R s m args below meth c B.U B.locs B.cells B.slots ∧ Post ⟨T.setVm vm₁, locs, cells, slots⟩ (Value.ref b :: argsL).toArray v B ∧
      ∀ target, Steps p.tables e below (B.U.setTop { g with pc := g.pc + 3, stack := v.toList ++ rest }) target → Steps p.tables e below (T.setTop g) target) ∨
    (∃ (q : Addr) (vm₁ : Vm) (B : Pt), s.WarmedH vm₁ ∧ Stand p l e R s m args below meth c B.U B.locs B.cells B.slots ∧ PostX ⟨T.setVm vm₁, locs, cells, slots⟩ (Value.ref b :: argsL).toArray q B ∧
      Steps p.tables e below (T.setTop g) ((B.U.setTop { g with stack := rest }).pushFrame (.throwing q))) := by
  obtain ⟨mk, methM, hnamed, hmethM, hstM, habM⟩ := Cond.instanceMethod_spec hinst
  obtain ⟨m8, methM', cM, hn8, hmethM', -, -, -, -, -, -, hsigM⟩ := Cond.codeWith_spec hcode
  cases Option.some.inj (hn8.symm.trans hnamed)
  cases hmethM.symm.trans hmethM'
  obtain ⟨c2, r2, m2, q1, q2, q3, q4, kP, hkP, hkPi⟩ := Cond.selects_spec hsel
  cases hcls.symm.trans q1
  cases (State.methodFound?_of_named hnamed hy).symm.trans q2
  cases hnamed.symm.trans q3
  have hselP : selectMethod e.platform s.vm cellB.cls mk = .method mk := by rw [Launch.admits_selectMethod X.admits]; exact q4
  obtain ⟨vm₁, X₁, hstep₁⟩ := X.invokevirtual hexec hown hlink hnamed hmethM hstM hkP hkPi hy (a := b) (cell := cellB) hcell
    (fun z h => by rw [h] at hobj; cases hobj) hselP hmethM habM hkP hkPi (g := g) hg (argsL := argsL) (rest := rest) (hlen _ hsigM) hstack hdg
  rcases hK m meth c ⟨T.setVm vm₁, locs, cells, slots⟩ { g with stack := rest } (.invokevirtual index) mk (Value.ref b :: argsL).toArray X₁ hg hsize hdg hW (X₁.named hnamed) (hpre vm₁ X₁.warmed) with ⟨v, B, X', hpost, hsteps⟩ | ⟨q, B, X', hpost, hsteps⟩
  · exact Or.inl ⟨v, vm₁, B, X₁.warmed, X', hpost, fun target h => hstep₁ _ fun acts => by rw [doInvoke_state]; exact hsteps.trans h⟩
  · exact Or.inr ⟨q, vm₁, B, X₁.warmed, X', hpost, hstep₁ _ fun acts => by rw [doInvoke_state]; exact hsteps⟩
theorem vx_callSX (X : Stand p l e R s m args below meth c T locs cells slots) (hexec : p.tables.exec = Jvm.exec) {own : String} {index : Nat} {y : MethodName} {bytes : ByteArray} {maxL : Nat} {ret : Option FieldType} {hh : List (Nat × Nat × Nat × Nat)}
    (hown : s.vm.findClass own = some m.cls) (hlink : (Cond.methodLink own index y).before args s = true) (hstat : (Cond.static y).before args s = true) (hinit : (Cond.initialized y.cls).before args s = true)
    (hcode : (Cond.codeWith y bytes maxL ret hh).before args s = true) (hy : y.cls ≠ "java/lang/invoke/MethodHandle" ∧ y.cls ≠ "java/lang/invoke/VarHandle")
    {W9 : Nat} {Pre : Pt → Array Value → Prop} {Post : Pt → Array Value → Option Value → Pt → Prop} {PostX : Pt → Array Value → Addr → Pt → Prop} (hK : vx_Back l R p e below s args y 3 W9 Pre Post PostX)
    {g : JFrame} (hg : g.method = m) (hsize : g.locals.size = c.maxLocals) {argsL rest : List Value} (hlen : ∀ sig, parseMethodDescriptor y.desc = some sig → argsL.length = sig.parameters.length)
    (hstack : g.stack = argsL.reverse ++ rest) (hW : 2 * g.monitorRoom + (rest.map fun v => v.category).sum ≤ W9) (hdg : decode c.code g.pc = .ok (.invokestatic index, 3))
    (hpre : ∀ vm₁, s.WarmedH vm₁ → Pre ⟨T.setVm vm₁, locs, cells, slots⟩ argsL.toArray) :
    (∃ (v : Option Value) (vm₁ : Vm) (B : Pt), s.WarmedH vm₁ ∧ Stand p l e R s m args below meth c B.U B.locs B.cells B.slots ∧ Post ⟨T.setVm vm₁, locs, cells, slots⟩ argsL.toArray v B ∧
      ∀ target, Steps p.tables e below (B.U.setTop { g with pc := g.pc + 3, stack := v.toList ++ rest }) target → Steps p.tables e below (T.setTop g) target) ∨
    (∃ (q : Addr) (vm₁ : Vm) (B : Pt), s.WarmedH vm₁ ∧ Stand p l e R s m args below meth c B.U B.locs B.cells B.slots ∧ PostX ⟨T.setVm vm₁, locs, cells, slots⟩ argsL.toArray q B ∧
      Steps p.tables e below (T.setTop g) ((B.U.setTop { g with stack := rest }).pushFrame (.throwing q))) := by
  obtain ⟨mk, methM, cM, hnamed, hmethM, -, -, -, -, -, -, hsigM⟩ := Cond.codeWith_spec hcode
  have hstatic : methM.isStatic = true := Cond.static_spec hnamed hmethM hstat
  obtain ⟨kP, hkP, -⟩ := className_of_methodNamed hnamed
  have hinitP : kP.init = .initialized := Cond.initialized_spec (findClass_of_methodNamed hnamed) hkP hinit
  obtain ⟨vm₁, X₁, hstep₁⟩ := X.invokestatic hexec hown hlink hnamed hmethM hstatic hkP hinitP hy (g := g) hg (argsL := argsL) (rest := rest) (hlen _ hsigM) hstack hdg
  rcases hK m meth c ⟨T.setVm vm₁, locs, cells, slots⟩ { g with stack := rest } (.invokestatic index) mk argsL.toArray X₁ hg hsize hdg hW (X₁.named hnamed) (hpre vm₁ X₁.warmed) with ⟨v, B, X', hpost, hsteps⟩ | ⟨q, B, X', hpost, hsteps⟩
  · exact Or.inl ⟨v, vm₁, B, X₁.warmed, X', hpost, fun target h => hstep₁ _ fun acts => by rw [doInvoke_state]; exact hsteps.trans h⟩
  · exact Or.inr ⟨q, vm₁, B, X₁.warmed, X', hpost, hstep₁ _ fun acts => by rw [doInvoke_state]; exact hsteps⟩
theorem vx_callVW (X : Stand p l e R s m args below meth c T locs cells slots) (hexec : p.tables.exec = Jvm.exec) {own C : String} {index : Nat} {y : MethodName} {bytes : ByteArray} {maxL : Nat} {ret : Option FieldType} {hh : List (Nat × Nat × Nat × Nat)}
    (hown : s.vm.findClass own = some m.cls) (hlink : (Cond.methodLink own index y).before args s = true) (hinst : (Cond.instanceMethod y).before args s = true) (hsel : (Cond.selects C y y).before args s = true)
    (hcode : (Cond.codeWith y bytes maxL ret hh).before args s = true) (hy : y.cls ≠ "java/lang/invoke/MethodHandle" ∧ y.cls ≠ "java/lang/invoke/VarHandle")
    {W9 : Nat} {Pre : Pt → Array Value → Prop} {Post : Pt → Array Value → Option Value → Pt → Prop} (hK : Back l R p e below s args y 3 W9 Pre Post)
    {b : Addr} {cellB : Cell} (hcell : T.heap[b]? = some cellB) (hobj : cellB.vm.isStatics = false) (hcls : s.vm.findClass C = some cellB.cls)
    {g : JFrame} (hg : g.method = m) (hsize : g.locals.size = c.maxLocals) {argsL rest : List Value} (hlen : ∀ sig, parseMethodDescriptor y.desc = some sig → argsL.length = sig.parameters.length)
    (hstack : g.stack = argsL.reverse ++ .ref b :: rest) (hW : 2 * g.monitorRoom + (rest.map fun v => v.category).sum ≤ W9) (hdg : decode c.code g.pc = .ok (.invokevirtual index, 3))
    (hpre : ∀ vm₁, s.WarmedH vm₁ → Pre ⟨T.setVm vm₁, locs, cells, slots⟩ (Value.ref b :: argsL).toArray) :
    ∃ (v : Option Value) (vm₁ : Vm) (B : Pt), s.WarmedH vm₁ ∧ Stand p l e R s m args below meth c B.U B.locs B.cells B.slots ∧ Post ⟨T.setVm vm₁, locs, cells, slots⟩ (Value.ref b :: argsL).toArray v B ∧
      ∀ target, Steps p.tables e below (B.U.setTop { g with pc := g.pc + 3, stack := v.toList ++ rest }) target → Steps p.tables e below (T.setTop g) target := by
  obtain ⟨mk, methM, hnamed, hmethM, hstM, habM⟩ := Cond.instanceMethod_spec hinst
  obtain ⟨m8, methM', cM, hn8, hmethM', -, -, -, -, -, -, hsigM⟩ := Cond.codeWith_spec hcode
  cases Option.some.inj (hn8.symm.trans hnamed)
  cases hmethM.symm.trans hmethM'
  obtain ⟨c2, r2, m2, q1, q2, q3, q4, kP, hkP, hkPi⟩ := Cond.selects_spec hsel
  cases hcls.symm.trans q1
  cases (State.methodFound?_of_named hnamed hy).symm.trans q2
  cases hnamed.symm.trans q3
  have hselP : selectMethod e.platform s.vm cellB.cls mk = .method mk := by rw [Launch.admits_selectMethod X.admits]; exact q4
  obtain ⟨vm₁, X₁, hstep₁⟩ := X.invokevirtual hexec hown hlink hnamed hmethM hstM hkP hkPi hy (a := b) (cell := cellB) hcell
    (fun z h => by rw [h] at hobj; cases hobj) hselP hmethM habM hkP hkPi (g := g) hg (argsL := argsL) (rest := rest) (hlen _ hsigM) hstack hdg
  obtain ⟨v, B, X', hpost, hsteps⟩ := hK m meth c ⟨T.setVm vm₁, locs, cells, slots⟩ { g with stack := rest } (.invokevirtual index) mk (Value.ref b :: argsL).toArray X₁ hg hsize hdg hW (X₁.named hnamed) (hpre vm₁ X₁.warmed)
  exact ⟨v, vm₁, B, X₁.warmed, X', hpost, fun target h => hstep₁ _ fun acts => by rw [doInvoke_state]; exact hsteps.trans h⟩
abbrev vx_CVW (R : Room) (s : State) (args : Array Value) (own C : String) (index : Nat) (y : MethodName) (bytes : ByteArray) (maxL : Nat) (ret : Option FieldType) (hh : List (Nat × Nat × Nat × Nat)) (ws : List Cond) (rm : Room) (mc ms n : Nat) : Prop :=
  (rm.cells = mc ∧ rm.slots = ms ∧ rm.frames + 1 ≤ R.frames ∧ 8 + (maxL + 11) + rm.locals ≤ R.locals ∧ (∀ w ∈ ws, ∀ (a' : Array Value) (U : State), s.WarmedH U.vm → w.before a' U = true) ∧ Cond.codeWith y bytes maxL ret hh ∈ ws) ∧
  (Cond.codeWith y bytes maxL ret hh).before args s = true ∧ (Cond.initialized y.cls).before args s = true ∧ (y.cls ≠ "java/lang/invoke/MethodHandle" ∧ y.cls ≠ "java/lang/invoke/VarHandle") ∧
  (∀ sig, parseMethodDescriptor y.desc = some sig → n = sig.parameters.length) ∧ (Cond.methodLink own index y).before args s = true ∧ (Cond.instanceMethod y).before args s = true ∧ (Cond.selects C y y).before args s = true
theorem vx_cwVW {own C : String} {index maxL mc ms : Nat} {y : MethodName} {bytes : ByteArray} {ret : Option FieldType} {hh : List (Nat × Nat × Nat × Nat)} {Ts ws ws' : List Cond} {rm : Room} (n : Nat) (ht : ∀ w ∈ Ts, w.before args s = true) (hT : GoodIn Ts (wsV own index C y ws)) (hw : ws = Cond.codeWith y bytes maxL ret hh :: ws') (hrc : rm.cells = mc) (hrs : rm.slots = ms)
    (hd : y.cls = C ∧ y.cls ≠ "java/lang/invoke/MethodHandle" ∧ y.cls ≠ "java/lang/invoke/VarHandle" ∧ (parseMethodDescriptor y.desc).map (fun d => d.parameters.length) = some n) (hR : rm.frames + 1 ≤ R.frames ∧ 8 + (maxL + 11) + rm.locals ≤ R.locals) :
    vx_CVW R s args own C index y bytes maxL ret hh ws rm mc ms n := by
  obtain ⟨hC, hd⟩ := hd
  subst hC
  have ok : ∀ w ∈ wsV own index y.cls y ws, w.before args s = true := fun w h => ht w (hT w h).1
  have hG : GoodIn Ts ws := fun w h => hT w (by unfold wsV; exact List.mem_append_right _ h)
  have hc : Cond.codeWith y bytes maxL ret hh ∈ ws := by rw [hw]; exact List.mem_cons_self
  refine ⟨⟨hrc, hrs, hR.1, hR.2, pay_in ht hG, hc⟩, ht _ (hG _ hc).1, ok _ (by simp [wsV]), ⟨hd.1, hd.2.1⟩, fun sig h => ?_, ok _ (by simp [wsV]), ok _ (by simp [wsV]), ok _ (by simp [wsV])⟩
  have h2 := hd.2.2
  rw [h] at h2
  exact (Option.some.inj h2).symm
theorem vx_runVW {y : MethodName} {bytes cc : ByteArray} {maxL nL mc ms n index : Nat} {ret : Option FieldType} {hh : List (Nat × Nat × Nat × Nat)} {ws : List Cond} {rm : Room} {Pc : Array Value → State → Prop} {Qc : Array Value → State → Outcome → State → Prop} {free : Addr → Prop} {Ts : List Cond} {own C : String} {b : Addr} {As rest : List Value} {g : JFrame}
    (S : CallFix p m c cc nL s args Ts own) (hM : Met l y ws rm Pc Qc mc ms free) (cw : vx_CVW R s args own C index y bytes maxL ret hh ws rm mc ms n) (hp : PreV s H C b Pc As)
    (hg : g.method = m) (hn : As.length = n) (hsize : g.locals.size = nL) (hstack : g.stack = As.reverse ++ .ref b :: rest) (hW : 2 * g.monitorRoom + (rest.map fun v => v.category).sum ≤ 8) (hdg : decode cc g.pc = .ok (.invokevirtual index, 3)) (hf : cells + mc ≤ R.cells ∧ slots + ms ≤ R.slots) :
    va_Run p l e R s m args below meth c H locs cells slots mc ms g rest (Qc (Value.ref b :: As).toArray) free := by
  obtain ⟨⟨hrc, hrs, hfr, hlo, hws, hcw⟩, hcode, hini, hy, hlen, hl, hin, hse⟩ := cw
  have hK : Back l R p e below s args y 3 8 (PreOf R mc ms Pc) (PostOf Qc mc ms free) := va_backW (hh := hh) (bytes := bytes) (maxL := maxL) (ret := ret) hM hp.1 hrc hrs hfr hlo hws hcw (fun a' U hW => word_at hW (Or.inl (by first | rfl | simp [Cond.onTables, Cond.keeps, Cond.steady])) hini)
  obtain ⟨hx, hb, hml, ho, -⟩ := S
  obtain ⟨-, ⟨cellB, hcB, hoB, hclB⟩, hPc⟩ := hp
  intro T hT X
  obtain ⟨v, vm₁, ⟨U', l2, c2, s2⟩, hW₁, X', ⟨g', mk, t, L, e1, e2, hq, h1, hL, h2, h3⟩, st⟩ := vx_callVW X hx (C := C) (hh := hh) (bytes := bytes) (maxL := maxL) (ret := ret) ho hl hin hse hcode hy hK (by rw [hT]; exact hcB) hoB hclB hg (hsize.trans hml.symm) (argsL := As) (rest := rest) (fun sig h => hn.trans (hlen sig h)) hstack hW (by rw [hb]; exact hdg)
    (fun vm₁ hW₁ => ⟨hf.1, hf.2, hPc (T.setVm vm₁) hT hW₁⟩)
  dsimp only [Pt.U, Pt.locs, Pt.cells, Pt.slots] at X' e1 e2 h1 h2 h3 st
  subst h1; subst h2; subst h3
  exact ⟨v, (T.setVm vm₁).calling g' mk (Value.ref b :: As).toArray, t, U', L, hT, X', hL, e1, e2, hq, st⟩
section
variable {y : MethodName} {bytes cc : ByteArray} {maxL nL mc ms n index : Nat} {ret : Option FieldType} {ws : List Cond} {rm : Room} {Pc : Array Value → State → Prop} {Qc : Array Value → State → Outcome → State → Prop} {XC : String → State → State → Prop} {free : Addr → Prop} {Ts : List Cond} {own C : String} {b : Addr} {As rest : List Value} {g : JFrame}
theorem vx_runVX {hh : List (Nat × Nat × Nat × Nat)} (S : CallFix p m c cc nL s args Ts own) (hM : vx_Met l y ws rm Pc Qc XC mc ms free) (cw : vx_CVW R s args own C index y bytes maxL ret hh ws rm mc ms n) (hp : PreV s H C b Pc As)
    (hg : g.method = m) (hn : As.length = n) (hsize : g.locals.size = nL) (hstack : g.stack = As.reverse ++ .ref b :: rest) (hW : 2 * g.monitorRoom + (rest.map fun v => v.category).sum ≤ 8) (hdg : decode cc g.pc = .ok (.invokevirtual index, 3)) (hf : cells + mc ≤ R.cells ∧ slots + ms ≤ R.slots) :
    vx_Run p l e R s m args below meth c H locs cells slots mc ms g rest (Qc (Value.ref b :: As).toArray) XC free := by
  obtain ⟨⟨hrc, hrs, hfr, hlo, hws, hcw⟩, hcode, hini, hy, hlen, hl, hin, hse⟩ := cw
  have hK : vx_Back l R p e below s args y 3 8 (PreOf R mc ms Pc) (PostOf Qc mc ms free) (vx_Post XC mc ms free) := vx_backW (hh := hh) (bytes := bytes) (maxL := maxL) (ret := ret) hM hp.1 hrc hrs hfr hlo hws hcw (fun a' U hW => word_at hW (Or.inl (by first | rfl | simp [Cond.onTables, Cond.keeps, Cond.steady])) hini)
  obtain ⟨hx, hb, hml, ho, -⟩ := S
  obtain ⟨-, ⟨cellB, hcB, hoB, hclB⟩, hPc⟩ := hp
  intro T hT X
  rcases vx_callVX X hx (C := C) (hh := hh) (bytes := bytes) (maxL := maxL) (ret := ret) ho hl hin hse hcode hy hK (by rw [hT]; exact hcB) hoB hclB hg (hsize.trans hml.symm) (argsL := As) (rest := rest) (fun sig h => hn.trans (hlen sig h)) hstack hW (by rw [hb]; exact hdg)
    (fun vm₁ hW₁ => ⟨hf.1, hf.2, hPc (T.setVm vm₁) hT hW₁⟩) with ⟨v, vm₁, ⟨U', l2, c2, s2⟩, hW₁, X', ⟨g', mk, t, L, e1, e2, hq, h1, hL, h2, h3⟩, st⟩ | ⟨q, vm₁, ⟨U', l2, c2, s2⟩, hW₁, X', ⟨g', mk, t, L, E, ce, e1, e2, hq, hce, hcv, hcl, h1, hL, h2, h3⟩, st⟩
  · dsimp only [Pt.U, Pt.locs, Pt.cells, Pt.slots] at X' e1 e2 h1 h2 h3 st
    subst h1; subst h2; subst h3
    exact Or.inl ⟨v, (T.setVm vm₁).calling g' mk (Value.ref b :: As).toArray, t, U', L, hT, X', hL, e1, e2, hq, st⟩
  · dsimp only [Pt.U, Pt.locs, Pt.cells, Pt.slots] at X' e1 e2 h1 h2 h3 st hcl
    subst h1; subst h2; subst h3
    exact Or.inr ⟨q, (T.setVm vm₁).calling g' mk (Value.ref b :: As).toArray, t, U', L, E, ce, hT, X', hL, e1, e2, hq, hce, hcv, vx_cls hW₁ hcl, st⟩
theorem vx_runSX {hh : List (Nat × Nat × Nat × Nat)} (S : CallFix p m c cc nL s args Ts own) (hM : vx_Met l y ws rm Pc Qc XC mc ms free) (cw : vx_CSW R s args own index y bytes maxL ret hh ws rm mc ms n) (hp : PreS s H Pc As)
    (hg : g.method = m) (hn : As.length = n) (hsize : g.locals.size = nL) (hstack : g.stack = As.reverse ++ rest) (hW : 2 * g.monitorRoom + (rest.map fun v => v.category).sum ≤ 8) (hdg : decode cc g.pc = .ok (.invokestatic index, 3)) (hf : cells + mc ≤ R.cells ∧ slots + ms ≤ R.slots) :
    vx_Run p l e R s m args below meth c H locs cells slots mc ms g rest (Qc As.toArray) XC free := by
  obtain ⟨⟨hrc, hrs, hfr, hlo, hws, hcw⟩, hcode, hini, hy, hlen, hl, hstt⟩ := cw
  have hK : vx_Back l R p e below s args y 3 8 (PreOf R mc ms Pc) (PostOf Qc mc ms free) (vx_Post XC mc ms free) := vx_backW (hh := hh) (bytes := bytes) (maxL := maxL) (ret := ret) hM hp.1 hrc hrs hfr hlo hws hcw (fun a' U hW => word_at hW (Or.inl (by first | rfl | simp [Cond.onTables, Cond.keeps, Cond.steady])) hini)
  obtain ⟨hx, hb, hml, ho, -⟩ := S
  intro T hT X
  rcases vx_callSX X hx (hh := hh) (bytes := bytes) (maxL := maxL) (ret := ret) ho hl hstt hini hcode hy hK hg (hsize.trans hml.symm) (argsL := As) (rest := rest) (fun sig h => hn.trans (hlen sig h)) hstack hW (by rw [hb]; exact hdg)
    (fun vm₁ hW₁ => ⟨hf.1, hf.2, hp.2 (T.setVm vm₁) hT hW₁⟩) with ⟨v, vm₁, ⟨U', l2, c2, s2⟩, hW₁, X', ⟨g', mk, t, L, e1, e2, hq, h1, hL, h2, h3⟩, st⟩ | ⟨q, vm₁, ⟨U', l2, c2, s2⟩, hW₁, X', ⟨g', mk, t, L, E, ce, e1, e2, hq, hce, hcv, hcl, h1, hL, h2, h3⟩, st⟩
  · dsimp only [Pt.U, Pt.locs, Pt.cells, Pt.slots] at X' e1 e2 h1 h2 h3 st
    subst h1; subst h2; subst h3
    exact Or.inl ⟨v, (T.setVm vm₁).calling g' mk As.toArray, t, U', L, hT, X', hL, e1, e2, hq, st⟩
  · dsimp only [Pt.U, Pt.locs, Pt.cells, Pt.slots] at X' e1 e2 h1 h2 h3 st hcl
    subst h1; subst h2; subst h3
    exact Or.inr ⟨q, (T.setVm vm₁).calling g' mk As.toArray, t, U', L, E, ce, hT, X', hL, e1, e2, hq, hce, hcv, vx_cls hW₁ hcl, st⟩
end
end VXH
theorem vx_ofWH {l : Launch} {y : MethodName} {ws ws' : List Cond} {rm : Room} {Pc : Array Value → State → Prop} {Qc : Array Value → State → Outcome → State → Prop} {XC : String → State → State → Prop} {mc ms : Nat} {free : Addr → Prop} {cc : ByteArray} {maxL : Nat} {ret : Option FieldType} {hh : List (Nat × Nat × Nat × Nat)}
    (hy : plainName y.cls = true) (hw : ws = Cond.codeWith y cc maxL ret hh :: ws')
    (body : ∀ p e s m args below meth c s₁, BodyLoose p l y (headSpec ws rm) cc maxL ret e s m args below meth c s₁ → c.maxLocals = maxL → Pc args s →
      W p l e (headSpec ws rm).room s m args below meth c s.heap [] 0 0 (vx_MQ below Qc XC args s mc ms free) (entryFrame m args maxL)) : vx_Met l y ws rm Pc Qc XC mc ms free := by
  refine MetFree.of_bodyS (code := cc) (maxLocals := maxL) (ret := ret) hy ?_ ?_
  · intro args s m h hn
    obtain ⟨m9, meth, c, hn9, h1, h2, h3, h4, -, h5, h6, -⟩ := Cond.codeWith_spec (atoms_spec (ws := ws) h _ (by rw [hw]; exact List.mem_cons_self))
    cases hn.symm.trans hn9
    exact ⟨meth, c, h1, h2, h3, h4, h5, h6⟩
  · intro p e s m args below meth c s₁ B hml hP _
    have hh0 : s₁.heap = s.heap := by rw [B.state]; rfl
    obtain ⟨t, a1, o, b1, b2, b3⟩ := body p e s m args below meth c s₁ B hml hP s₁ hh0 (Stand.of_body B)
    exact ⟨t, o, a1, b1, b2, b3⟩
/-! ===== END ===== -/

/-! ===== BEGIN printed: names, fields, word lists, decode rows ===== -/
end
section
def zAll : List Cond := lw_tbl.filter goodWord
theorem zUp {w : Cond} {ws : List Cond} (h : GoodIn zAll ws) : GoodIn (w :: zAll) ws := fun x hx => ⟨List.mem_cons_of_mem _ (h x hx).1, (h x hx).2⟩
theorem zGc {y : MethodName} {c : ByteArray} {n : Nat} {r : Option FieldType} (h : Cond.code y c n r ∈ zAll) : GoodIn zAll (Cond.code y c n r :: zAll) := fun w hw => by
  have hm : w ∈ zAll := (List.mem_cons.mp hw).elim (fun e => by rw [e]; exact h) id
  exact ⟨hm, good_of_word (List.mem_filter.mp hm).2⟩
theorem zGw {y : MethodName} {c : ByteArray} {n : Nat} {r : Option FieldType} {hh : List (Nat × Nat × Nat × Nat)} (h : Cond.codeWith y c n r hh ∈ zAll) : GoodIn zAll (Cond.codeWith y c n r hh :: zAll) := fun w hw => by
  have hm : w ∈ zAll := (List.mem_cons.mp hw).elim (fun e => by rw [e]; exact h) id
  exact ⟨hm, good_of_word (List.mem_filter.mp hm).2⟩
theorem zGl {ls ws : List Cond} (h1 : ∀ w ∈ ls, w ∈ zAll) (h2 : GoodIn zAll ws) : GoodIn zAll (ls ++ ws) := fun w hw => (List.mem_append.mp hw).elim (fun h => ⟨h1 w h, good_of_word (List.mem_filter.mp (h1 w h)).2⟩) (h2 w)
def RX : String := "StartTable"
def RM : String := "StartTableModel"
def RL : String := "StartTableLaw"
def RI : String := "java/lang/Integer"
def RA : String := "java/util/Arrays"
def TX : u_T := fun k => match k with
  | 0 => ("StartTable", "marks", "[I", true)
  | 1 => ("StartTable", "starts", "[I", true)
  | 2 => ("StartTable", "cells", "I", false)
  | _ => ("StartTable", "pieces", "I", false)
def tyX : Nat → FieldType := fun k => match k with
  | 0 => .array .int
  | 1 => .array .int
  | 2 => .int
  | _ => .int
def TM : u_T := fun k => match k with
  | 0 => ("StartTableModel", "thrown", "I", false)
  | 1 => ("StartTableModel", "cells", "I", false)
  | _ => ("StartTableModel", "begins", "[Z", true)
def tyM : Nat → FieldType := fun k => match k with
  | 0 => .int
  | 1 => .int
  | _ => .array .boolean
theorem nmX : ∀ a, a < 4 → ∀ b, b < 4 → a ≠ b → (TX a).2.1 ≠ (TX b).2.1 := by decide +kernel
theorem tyX_ok : ∀ k, k < 4 → parseFieldDescriptor (TX k).2.2.1 = some (tyX k) := by decide +kernel
theorem nmM : ∀ a, a < 3 → ∀ b, b < 3 → a ≠ b → (TM a).2.1 ≠ (TM b).2.1 := by decide +kernel
theorem tyM_ok : ∀ k, k < 3 → parseFieldDescriptor (TM k).2.2.1 = some (tyM k) := by decide +kernel
theorem inX : ∀ w ∈ u_ws RX TX 4, w ∈ zAll := by decide +kernel
theorem inM : ∀ w ∈ u_ws RM TM 3, w ∈ zAll := by decide +kernel
abbrev vwCl : List vw_C := [(RX, TX, 4), (RM, TM, 3)]
abbrev c_nlz : ByteArray := prog_7_method_47_code
def y_nlz : MethodName := ⟨RI, "numberOfLeadingZeros", "(I)I"⟩
def ws_nlz : List Cond := .code y_nlz c_nlz 2 (some .int) :: zAll
theorem wc_nlz : Cond.code y_nlz c_nlz 2 (some .int) ∈ zAll := by decide +kernel
theorem d_nlz_0 : decode c_nlz 0 = .ok (.iload_n 0, 1) := by decide +kernel
theorem d_nlz_1 : decode c_nlz 1 = .ok (.ifCond .gt 14, 3) := by decide +kernel
theorem d_nlz_4 : decode c_nlz 4 = .ok (.iload_n 0, 1) := by decide +kernel
theorem d_nlz_5 : decode c_nlz 5 = .ok (.ifCond .ne 8, 3) := by decide +kernel
theorem d_nlz_8 : decode c_nlz 8 = .ok (.bipush 32, 2) := by decide +kernel
theorem d_nlz_10 : decode c_nlz 10 = .ok (.goto 4, 3) := by decide +kernel
theorem d_nlz_13 : decode c_nlz 13 = .ok (.iconst 0, 1) := by decide +kernel
theorem d_nlz_14 : decode c_nlz 14 = .ok (.ireturn, 1) := by decide +kernel
theorem d_nlz_15 : decode c_nlz 15 = .ok (.bipush 31, 2) := by decide +kernel
theorem d_nlz_17 : decode c_nlz 17 = .ok (.istore_n 1, 1) := by decide +kernel
theorem d_nlz_18 : decode c_nlz 18 = .ok (.iload_n 0, 1) := by decide +kernel
theorem d_nlz_19 : decode c_nlz 19 = .ok (.ldc_w 264, 3) := by decide +kernel
theorem d_nlz_22 : decode c_nlz 22 = .ok (.if_icmp .lt 11, 3) := by decide +kernel
theorem d_nlz_25 : decode c_nlz 25 = .ok (.iinc 1 (-16), 3) := by decide +kernel
theorem d_nlz_28 : decode c_nlz 28 = .ok (.iload_n 0, 1) := by decide +kernel
theorem d_nlz_29 : decode c_nlz 29 = .ok (.bipush 16, 2) := by decide +kernel
theorem d_nlz_31 : decode c_nlz 31 = .ok (.iushr, 1) := by decide +kernel
theorem d_nlz_32 : decode c_nlz 32 = .ok (.istore_n 0, 1) := by decide +kernel
theorem d_nlz_33 : decode c_nlz 33 = .ok (.iload_n 0, 1) := by decide +kernel
theorem d_nlz_34 : decode c_nlz 34 = .ok (.sipush 256, 3) := by decide +kernel
theorem d_nlz_37 : decode c_nlz 37 = .ok (.if_icmp .lt 11, 3) := by decide +kernel
theorem d_nlz_40 : decode c_nlz 40 = .ok (.iinc 1 (-8), 3) := by decide +kernel
theorem d_nlz_43 : decode c_nlz 43 = .ok (.iload_n 0, 1) := by decide +kernel
theorem d_nlz_44 : decode c_nlz 44 = .ok (.bipush 8, 2) := by decide +kernel
theorem d_nlz_46 : decode c_nlz 46 = .ok (.iushr, 1) := by decide +kernel
theorem d_nlz_47 : decode c_nlz 47 = .ok (.istore_n 0, 1) := by decide +kernel
theorem d_nlz_48 : decode c_nlz 48 = .ok (.iload_n 0, 1) := by decide +kernel
theorem d_nlz_49 : decode c_nlz 49 = .ok (.bipush 16, 2) := by decide +kernel
theorem d_nlz_51 : decode c_nlz 51 = .ok (.if_icmp .lt 10, 3) := by decide +kernel
theorem d_nlz_54 : decode c_nlz 54 = .ok (.iinc 1 (-4), 3) := by decide +kernel
theorem d_nlz_57 : decode c_nlz 57 = .ok (.iload_n 0, 1) := by decide +kernel
theorem d_nlz_58 : decode c_nlz 58 = .ok (.iconst 4, 1) := by decide +kernel
theorem d_nlz_59 : decode c_nlz 59 = .ok (.iushr, 1) := by decide +kernel
theorem d_nlz_60 : decode c_nlz 60 = .ok (.istore_n 0, 1) := by decide +kernel
theorem d_nlz_61 : decode c_nlz 61 = .ok (.iload_n 0, 1) := by decide +kernel
theorem d_nlz_62 : decode c_nlz 62 = .ok (.iconst 4, 1) := by decide +kernel
theorem d_nlz_63 : decode c_nlz 63 = .ok (.if_icmp .lt 10, 3) := by decide +kernel
theorem d_nlz_66 : decode c_nlz 66 = .ok (.iinc 1 (-2), 3) := by decide +kernel
theorem d_nlz_69 : decode c_nlz 69 = .ok (.iload_n 0, 1) := by decide +kernel
theorem d_nlz_70 : decode c_nlz 70 = .ok (.iconst 2, 1) := by decide +kernel
theorem d_nlz_71 : decode c_nlz 71 = .ok (.iushr, 1) := by decide +kernel
theorem d_nlz_72 : decode c_nlz 72 = .ok (.istore_n 0, 1) := by decide +kernel
theorem d_nlz_73 : decode c_nlz 73 = .ok (.iload_n 1, 1) := by decide +kernel
theorem d_nlz_74 : decode c_nlz 74 = .ok (.iload_n 0, 1) := by decide +kernel
theorem d_nlz_75 : decode c_nlz 75 = .ok (.iconst 1, 1) := by decide +kernel
theorem d_nlz_76 : decode c_nlz 76 = .ok (.iushr, 1) := by decide +kernel
theorem d_nlz_77 : decode c_nlz 77 = .ok (.isub, 1) := by decide +kernel
theorem d_nlz_78 : decode c_nlz 78 = .ok (.ireturn, 1) := by decide +kernel
abbrev c_ntz : ByteArray := prog_7_method_48_code
def y_ntz : MethodName := ⟨RI, "numberOfTrailingZeros", "(I)I"⟩
def ws_ntz : List Cond := .code y_ntz c_ntz 2 (some .int) :: zAll
theorem wc_ntz : Cond.code y_ntz c_ntz 2 (some .int) ∈ zAll := by decide +kernel
theorem d_ntz_0 : decode c_ntz 0 = .ok (.iload_n 0, 1) := by decide +kernel
theorem d_ntz_1 : decode c_ntz 1 = .ok (.iconst (-1), 1) := by decide +kernel
theorem d_ntz_2 : decode c_ntz 2 = .ok (.ixor, 1) := by decide +kernel
theorem d_ntz_3 : decode c_ntz 3 = .ok (.iload_n 0, 1) := by decide +kernel
theorem d_ntz_4 : decode c_ntz 4 = .ok (.iconst 1, 1) := by decide +kernel
theorem d_ntz_5 : decode c_ntz 5 = .ok (.isub, 1) := by decide +kernel
theorem d_ntz_6 : decode c_ntz 6 = .ok (.iand, 1) := by decide +kernel
theorem d_ntz_7 : decode c_ntz 7 = .ok (.istore_n 0, 1) := by decide +kernel
theorem d_ntz_8 : decode c_ntz 8 = .ok (.iload_n 0, 1) := by decide +kernel
theorem d_ntz_9 : decode c_ntz 9 = .ok (.ifCond .gt 8, 3) := by decide +kernel
theorem d_ntz_12 : decode c_ntz 12 = .ok (.iload_n 0, 1) := by decide +kernel
theorem d_ntz_13 : decode c_ntz 13 = .ok (.bipush 32, 2) := by decide +kernel
theorem d_ntz_15 : decode c_ntz 15 = .ok (.iand, 1) := by decide +kernel
theorem d_ntz_16 : decode c_ntz 16 = .ok (.ireturn, 1) := by decide +kernel
theorem d_ntz_17 : decode c_ntz 17 = .ok (.iconst 1, 1) := by decide +kernel
theorem d_ntz_18 : decode c_ntz 18 = .ok (.istore_n 1, 1) := by decide +kernel
theorem d_ntz_19 : decode c_ntz 19 = .ok (.iload_n 0, 1) := by decide +kernel
theorem d_ntz_20 : decode c_ntz 20 = .ok (.ldc_w 264, 3) := by decide +kernel
theorem d_ntz_23 : decode c_ntz 23 = .ok (.if_icmp .le 11, 3) := by decide +kernel
theorem d_ntz_26 : decode c_ntz 26 = .ok (.iinc 1 16, 3) := by decide +kernel
theorem d_ntz_29 : decode c_ntz 29 = .ok (.iload_n 0, 1) := by decide +kernel
theorem d_ntz_30 : decode c_ntz 30 = .ok (.bipush 16, 2) := by decide +kernel
theorem d_ntz_32 : decode c_ntz 32 = .ok (.iushr, 1) := by decide +kernel
theorem d_ntz_33 : decode c_ntz 33 = .ok (.istore_n 0, 1) := by decide +kernel
theorem d_ntz_34 : decode c_ntz 34 = .ok (.iload_n 0, 1) := by decide +kernel
theorem d_ntz_35 : decode c_ntz 35 = .ok (.sipush 256, 3) := by decide +kernel
theorem d_ntz_38 : decode c_ntz 38 = .ok (.if_icmp .le 11, 3) := by decide +kernel
theorem d_ntz_41 : decode c_ntz 41 = .ok (.iinc 1 8, 3) := by decide +kernel
theorem d_ntz_44 : decode c_ntz 44 = .ok (.iload_n 0, 1) := by decide +kernel
theorem d_ntz_45 : decode c_ntz 45 = .ok (.bipush 8, 2) := by decide +kernel
theorem d_ntz_47 : decode c_ntz 47 = .ok (.iushr, 1) := by decide +kernel
theorem d_ntz_48 : decode c_ntz 48 = .ok (.istore_n 0, 1) := by decide +kernel
theorem d_ntz_49 : decode c_ntz 49 = .ok (.iload_n 0, 1) := by decide +kernel
theorem d_ntz_50 : decode c_ntz 50 = .ok (.bipush 16, 2) := by decide +kernel
theorem d_ntz_52 : decode c_ntz 52 = .ok (.if_icmp .le 10, 3) := by decide +kernel
theorem d_ntz_55 : decode c_ntz 55 = .ok (.iinc 1 4, 3) := by decide +kernel
theorem d_ntz_58 : decode c_ntz 58 = .ok (.iload_n 0, 1) := by decide +kernel
theorem d_ntz_59 : decode c_ntz 59 = .ok (.iconst 4, 1) := by decide +kernel
theorem d_ntz_60 : decode c_ntz 60 = .ok (.iushr, 1) := by decide +kernel
theorem d_ntz_61 : decode c_ntz 61 = .ok (.istore_n 0, 1) := by decide +kernel
theorem d_ntz_62 : decode c_ntz 62 = .ok (.iload_n 0, 1) := by decide +kernel
theorem d_ntz_63 : decode c_ntz 63 = .ok (.iconst 4, 1) := by decide +kernel
theorem d_ntz_64 : decode c_ntz 64 = .ok (.if_icmp .le 10, 3) := by decide +kernel
theorem d_ntz_67 : decode c_ntz 67 = .ok (.iinc 1 2, 3) := by decide +kernel
theorem d_ntz_70 : decode c_ntz 70 = .ok (.iload_n 0, 1) := by decide +kernel
theorem d_ntz_71 : decode c_ntz 71 = .ok (.iconst 2, 1) := by decide +kernel
theorem d_ntz_72 : decode c_ntz 72 = .ok (.iushr, 1) := by decide +kernel
theorem d_ntz_73 : decode c_ntz 73 = .ok (.istore_n 0, 1) := by decide +kernel
theorem d_ntz_74 : decode c_ntz 74 = .ok (.iload_n 1, 1) := by decide +kernel
theorem d_ntz_75 : decode c_ntz 75 = .ok (.iload_n 0, 1) := by decide +kernel
theorem d_ntz_76 : decode c_ntz 76 = .ok (.iconst 1, 1) := by decide +kernel
theorem d_ntz_77 : decode c_ntz 77 = .ok (.iushr, 1) := by decide +kernel
theorem d_ntz_78 : decode c_ntz 78 = .ok (.iadd, 1) := by decide +kernel
theorem d_ntz_79 : decode c_ntz 79 = .ok (.ireturn, 1) := by decide +kernel
abbrev c_pop : ByteArray := prog_7_method_49_code
def y_pop : MethodName := ⟨RI, "bitCount", "(I)I"⟩
def ws_pop : List Cond := .code y_pop c_pop 1 (some .int) :: zAll
theorem wc_pop : Cond.code y_pop c_pop 1 (some .int) ∈ zAll := by decide +kernel
theorem d_pop_0 : decode c_pop 0 = .ok (.iload_n 0, 1) := by decide +kernel
theorem d_pop_1 : decode c_pop 1 = .ok (.iload_n 0, 1) := by decide +kernel
theorem d_pop_2 : decode c_pop 2 = .ok (.iconst 1, 1) := by decide +kernel
theorem d_pop_3 : decode c_pop 3 = .ok (.iushr, 1) := by decide +kernel
theorem d_pop_4 : decode c_pop 4 = .ok (.ldc_w 265, 3) := by decide +kernel
theorem d_pop_7 : decode c_pop 7 = .ok (.iand, 1) := by decide +kernel
theorem d_pop_8 : decode c_pop 8 = .ok (.isub, 1) := by decide +kernel
theorem d_pop_9 : decode c_pop 9 = .ok (.istore_n 0, 1) := by decide +kernel
theorem d_pop_10 : decode c_pop 10 = .ok (.iload_n 0, 1) := by decide +kernel
theorem d_pop_11 : decode c_pop 11 = .ok (.ldc_w 266, 3) := by decide +kernel
theorem d_pop_14 : decode c_pop 14 = .ok (.iand, 1) := by decide +kernel
theorem d_pop_15 : decode c_pop 15 = .ok (.iload_n 0, 1) := by decide +kernel
theorem d_pop_16 : decode c_pop 16 = .ok (.iconst 2, 1) := by decide +kernel
theorem d_pop_17 : decode c_pop 17 = .ok (.iushr, 1) := by decide +kernel
theorem d_pop_18 : decode c_pop 18 = .ok (.ldc_w 266, 3) := by decide +kernel
theorem d_pop_21 : decode c_pop 21 = .ok (.iand, 1) := by decide +kernel
theorem d_pop_22 : decode c_pop 22 = .ok (.iadd, 1) := by decide +kernel
theorem d_pop_23 : decode c_pop 23 = .ok (.istore_n 0, 1) := by decide +kernel
theorem d_pop_24 : decode c_pop 24 = .ok (.iload_n 0, 1) := by decide +kernel
theorem d_pop_25 : decode c_pop 25 = .ok (.iload_n 0, 1) := by decide +kernel
theorem d_pop_26 : decode c_pop 26 = .ok (.iconst 4, 1) := by decide +kernel
theorem d_pop_27 : decode c_pop 27 = .ok (.iushr, 1) := by decide +kernel
theorem d_pop_28 : decode c_pop 28 = .ok (.iadd, 1) := by decide +kernel
theorem d_pop_29 : decode c_pop 29 = .ok (.ldc_w 267, 3) := by decide +kernel
theorem d_pop_32 : decode c_pop 32 = .ok (.iand, 1) := by decide +kernel
theorem d_pop_33 : decode c_pop 33 = .ok (.istore_n 0, 1) := by decide +kernel
theorem d_pop_34 : decode c_pop 34 = .ok (.iload_n 0, 1) := by decide +kernel
theorem d_pop_35 : decode c_pop 35 = .ok (.iload_n 0, 1) := by decide +kernel
theorem d_pop_36 : decode c_pop 36 = .ok (.bipush 8, 2) := by decide +kernel
theorem d_pop_38 : decode c_pop 38 = .ok (.iushr, 1) := by decide +kernel
theorem d_pop_39 : decode c_pop 39 = .ok (.iadd, 1) := by decide +kernel
theorem d_pop_40 : decode c_pop 40 = .ok (.istore_n 0, 1) := by decide +kernel
theorem d_pop_41 : decode c_pop 41 = .ok (.iload_n 0, 1) := by decide +kernel
theorem d_pop_42 : decode c_pop 42 = .ok (.iload_n 0, 1) := by decide +kernel
theorem d_pop_43 : decode c_pop 43 = .ok (.bipush 16, 2) := by decide +kernel
theorem d_pop_45 : decode c_pop 45 = .ok (.iushr, 1) := by decide +kernel
theorem d_pop_46 : decode c_pop 46 = .ok (.iadd, 1) := by decide +kernel
theorem d_pop_47 : decode c_pop 47 = .ok (.istore_n 0, 1) := by decide +kernel
theorem d_pop_48 : decode c_pop 48 = .ok (.iload_n 0, 1) := by decide +kernel
theorem d_pop_49 : decode c_pop 49 = .ok (.bipush 63, 2) := by decide +kernel
theorem d_pop_51 : decode c_pop 51 = .ok (.iand, 1) := by decide +kernel
theorem d_pop_52 : decode c_pop 52 = .ok (.ireturn, 1) := by decide +kernel
abbrev c_fill : ByteArray := prog_12_method_103_code
def y_fill : MethodName := ⟨RA, "fill", "([II)V"⟩
def ws_fill : List Cond := .code y_fill c_fill 4 none :: zAll
theorem wc_fill : Cond.code y_fill c_fill 4 none ∈ zAll := by decide +kernel
theorem d_fill_0 : decode c_fill 0 = .ok (.iconst 0, 1) := by decide +kernel
theorem d_fill_1 : decode c_fill 1 = .ok (.istore_n 2, 1) := by decide +kernel
theorem d_fill_2 : decode c_fill 2 = .ok (.aload_n 0, 1) := by decide +kernel
theorem d_fill_3 : decode c_fill 3 = .ok (.arraylength, 1) := by decide +kernel
theorem d_fill_4 : decode c_fill 4 = .ok (.istore_n 3, 1) := by decide +kernel
theorem d_fill_5 : decode c_fill 5 = .ok (.iload_n 2, 1) := by decide +kernel
theorem d_fill_6 : decode c_fill 6 = .ok (.iload_n 3, 1) := by decide +kernel
theorem d_fill_7 : decode c_fill 7 = .ok (.if_icmp .ge 13, 3) := by decide +kernel
theorem d_fill_10 : decode c_fill 10 = .ok (.aload_n 0, 1) := by decide +kernel
theorem d_fill_11 : decode c_fill 11 = .ok (.iload_n 2, 1) := by decide +kernel
theorem d_fill_12 : decode c_fill 12 = .ok (.iload_n 1, 1) := by decide +kernel
theorem d_fill_13 : decode c_fill 13 = .ok (.iastore, 1) := by decide +kernel
theorem d_fill_14 : decode c_fill 14 = .ok (.iinc 2 1, 3) := by decide +kernel
theorem d_fill_17 : decode c_fill 17 = .ok (.goto (-12), 3) := by decide +kernel
theorem d_fill_20 : decode c_fill 20 = .ok (.return_, 1) := by decide +kernel
abbrev c_X_init : ByteArray := prog_1_method_1_code
def y_X_init : MethodName := ⟨RX, "<init>", "()V"⟩
def ws_X_init : List Cond := .code y_X_init c_X_init 1 none :: zAll
theorem wc_X_init : Cond.code y_X_init c_X_init 1 none ∈ zAll := by decide +kernel
abbrev c_X_space : ByteArray := prog_1_method_2_code
def y_X_space : MethodName := ⟨RX, "space", "(I)I"⟩
def ws_X_space : List Cond := .code y_X_space c_X_space 3 (some .int) :: zAll
theorem wc_X_space : Cond.code y_X_space c_X_space 3 (some .int) ∈ zAll := by decide +kernel
abbrev c_X_cut : ByteArray := prog_1_method_3_code
def y_X_cut : MethodName := ⟨RX, "cut", "(I)I"⟩
def ws_X_cut : List Cond := .code y_X_cut c_X_cut 3 (some .int) :: zAll
theorem wc_X_cut : Cond.code y_X_cut c_X_cut 3 (some .int) ∈ zAll := by decide +kernel
abbrev c_X_join : ByteArray := prog_1_method_4_code
def y_X_join : MethodName := ⟨RX, "join", "(I)I"⟩
def ws_X_join : List Cond := .code y_X_join c_X_join 5 (some .int) :: zAll
theorem wc_X_join : Cond.code y_X_join c_X_join 5 (some .int) ∈ zAll := by decide +kernel
abbrev c_X_make : ByteArray := prog_1_method_5_code
def y_X_make : MethodName := ⟨RX, "make", "(II)I"⟩
def ws_X_make : List Cond := .code y_X_make c_X_make 3 (some .int) :: zAll
theorem wc_X_make : Cond.code y_X_make c_X_make 3 (some .int) ∈ zAll := by decide +kernel
abbrev c_X_begin : ByteArray := prog_1_method_6_code
def y_X_begin : MethodName := ⟨RX, "begin", "(I)I"⟩
def ws_X_begin : List Cond := .code y_X_begin c_X_begin 2 (some .int) :: zAll
theorem wc_X_begin : Cond.code y_X_begin c_X_begin 2 (some .int) ∈ zAll := by decide +kernel
abbrev c_X_size : ByteArray := prog_1_method_7_code
def y_X_size : MethodName := ⟨RX, "size", "(I)I"⟩
def ws_X_size : List Cond := .code y_X_size c_X_size 2 (some .int) :: zAll
theorem wc_X_size : Cond.code y_X_size c_X_size 2 (some .int) ∈ zAll := by decide +kernel
abbrev c_X_start : ByteArray := prog_1_method_8_code
def y_X_start : MethodName := ⟨RX, "start", "(I)I"⟩
def ws_X_start : List Cond := .code y_X_start c_X_start 2 (some .int) :: zAll
theorem wc_X_start : Cond.code y_X_start c_X_start 2 (some .int) ∈ zAll := by decide +kernel
abbrev c_X_begins : ByteArray := prog_1_method_9_code
def y_X_begins : MethodName := ⟨RX, "begins", "(I)I"⟩
def ws_X_begins : List Cond := .code y_X_begins c_X_begins 2 (some .int) :: zAll
theorem wc_X_begins : Cond.code y_X_begins c_X_begins 2 (some .int) ∈ zAll := by decide +kernel
abbrev c_X_count : ByteArray := prog_1_method_10_code
def y_X_count : MethodName := ⟨RX, "count", "(I)I"⟩
def ws_X_count : List Cond := .code y_X_count c_X_count 2 (some .int) :: zAll
theorem wc_X_count : Cond.code y_X_count c_X_count 2 (some .int) ∈ zAll := by decide +kernel
abbrev c_X_checkCell : ByteArray := prog_1_method_11_code
def y_X_checkCell : MethodName := ⟨RX, "checkCell", "(I)V"⟩
def ws_X_checkCell : List Cond := .code y_X_checkCell c_X_checkCell 2 none :: zAll
theorem wc_X_checkCell : Cond.code y_X_checkCell c_X_checkCell 2 none ∈ zAll := by decide +kernel
abbrev c_X_checkCard : ByteArray := prog_1_method_12_code
def y_X_checkCard : MethodName := ⟨RX, "checkCard", "(I)V"⟩
def ws_X_checkCard : List Cond := .code y_X_checkCard c_X_checkCard 2 none :: zAll
theorem wc_X_checkCard : Cond.code y_X_checkCard c_X_checkCard 2 none ∈ zAll := by decide +kernel
abbrev c_X_cardCount : ByteArray := prog_1_method_13_code
def y_X_cardCount : MethodName := ⟨RX, "cardCount", "()I"⟩
def ws_X_cardCount : List Cond := .code y_X_cardCount c_X_cardCount 1 (some .int) :: zAll
theorem wc_X_cardCount : Cond.code y_X_cardCount c_X_cardCount 1 (some .int) ∈ zAll := by decide +kernel
abbrev c_X_layOnePiece : ByteArray := prog_1_method_14_code
def y_X_layOnePiece : MethodName := ⟨RX, "layOnePiece", "(I)V"⟩
def ws_X_layOnePiece : List Cond := .code y_X_layOnePiece c_X_layOnePiece 2 none :: zAll
theorem wc_X_layOnePiece : Cond.code y_X_layOnePiece c_X_layOnePiece 2 none ∈ zAll := by decide +kernel
abbrev c_X_beginOf : ByteArray := prog_1_method_15_code
def y_X_beginOf : MethodName := ⟨RX, "beginOf", "(I)I"⟩
def ws_X_beginOf : List Cond := .code y_X_beginOf c_X_beginOf 5 (some .int) :: zAll
theorem wc_X_beginOf : Cond.code y_X_beginOf c_X_beginOf 5 (some .int) ∈ zAll := by decide +kernel
abbrev c_X_endOf : ByteArray := prog_1_method_16_code
def y_X_endOf : MethodName := ⟨RX, "endOf", "(I)I"⟩
def ws_X_endOf : List Cond := .code y_X_endOf c_X_endOf 2 (some .int) :: zAll
theorem wc_X_endOf : Cond.code y_X_endOf c_X_endOf 2 (some .int) ∈ zAll := by decide +kernel
abbrev c_X_firstBeginFrom : ByteArray := prog_1_method_17_code
def y_X_firstBeginFrom : MethodName := ⟨RX, "firstBeginFrom", "(I)I"⟩
def ws_X_firstBeginFrom : List Cond := .code y_X_firstBeginFrom c_X_firstBeginFrom 6 (some .int) :: zAll
theorem wc_X_firstBeginFrom : Cond.code y_X_firstBeginFrom c_X_firstBeginFrom 6 (some .int) ∈ zAll := by decide +kernel
abbrev c_X_cutAt : ByteArray := prog_1_method_18_code
def y_X_cutAt : MethodName := ⟨RX, "cutAt", "(I)V"⟩
def ws_X_cutAt : List Cond := .code y_X_cutAt c_X_cutAt 2 none :: zAll
theorem wc_X_cutAt : Cond.code y_X_cutAt c_X_cutAt 2 none ∈ zAll := by decide +kernel
abbrev c_X_merge : ByteArray := prog_1_method_19_code
def y_X_merge : MethodName := ⟨RX, "merge", "(II)V"⟩
def ws_X_merge : List Cond := .code y_X_merge c_X_merge 6 none :: zAll
theorem wc_X_merge : Cond.code y_X_merge c_X_merge 6 none ∈ zAll := by decide +kernel
abbrev c_X_bitOf : ByteArray := prog_1_method_20_code
def y_X_bitOf : MethodName := ⟨RX, "bitOf", "(I)I"⟩
def ws_X_bitOf : List Cond := .code y_X_bitOf c_X_bitOf 1 (some .int) :: zAll
theorem wc_X_bitOf : Cond.code y_X_bitOf c_X_bitOf 1 (some .int) ∈ zAll := by decide +kernel
abbrev c_X_tellStarts : ByteArray := prog_1_method_21_code
def y_X_tellStarts : MethodName := ⟨RX, "tellStarts", "(II)V"⟩
def ws_X_tellStarts : List Cond := .code y_X_tellStarts c_X_tellStarts 6 none :: zAll
theorem wc_X_tellStarts : Cond.code y_X_tellStarts c_X_tellStarts 6 none ∈ zAll := by decide +kernel
abbrev c_X_outermostSize : ByteArray := prog_1_method_22_code
def y_X_outermostSize : MethodName := ⟨RX, "outermostSize", "(Z)I"⟩
def ws_X_outermostSize : List Cond := .code y_X_outermostSize c_X_outermostSize 7 (some .int) :: zAll
theorem wc_X_outermostSize : Cond.code y_X_outermostSize c_X_outermostSize 7 (some .int) ∈ zAll := by decide +kernel
abbrev c_M_init : ByteArray := prog_3_method_1_code
def y_M_init : MethodName := ⟨RM, "<init>", "()V"⟩
def ws_M_init : List Cond := .code y_M_init c_M_init 1 none :: zAll
theorem wc_M_init : Cond.code y_M_init c_M_init 1 none ∈ zAll := by decide +kernel
abbrev c_M_thrown : ByteArray := prog_3_method_2_code
def y_M_thrown : MethodName := ⟨RM, "thrown", "()I"⟩
def ws_M_thrown : List Cond := .code y_M_thrown c_M_thrown 1 (some .int) :: zAll
theorem wc_M_thrown : Cond.code y_M_thrown c_M_thrown 1 (some .int) ∈ zAll := by decide +kernel
abbrev c_M_goes : ByteArray := prog_3_method_3_code
def y_M_goes : MethodName := ⟨RM, "goes", "(Z)Z"⟩
def ws_M_goes : List Cond := .code y_M_goes c_M_goes 2 (some .boolean) :: zAll
theorem wc_M_goes : Cond.code y_M_goes c_M_goes 2 (some .boolean) ∈ zAll := by decide +kernel
abbrev c_M_cards : ByteArray := prog_3_method_4_code
def y_M_cards : MethodName := ⟨RM, "cards", "()I"⟩
def ws_M_cards : List Cond := .code y_M_cards c_M_cards 1 (some .int) :: zAll
theorem wc_M_cards : Cond.code y_M_cards c_M_cards 1 (some .int) ∈ zAll := by decide +kernel
abbrev c_M_isCell : ByteArray := prog_3_method_5_code
def y_M_isCell : MethodName := ⟨RM, "isCell", "(I)Z"⟩
def ws_M_isCell : List Cond := .code y_M_isCell c_M_isCell 2 (some .boolean) :: zAll
theorem wc_M_isCell : Cond.code y_M_isCell c_M_isCell 2 (some .boolean) ∈ zAll := by decide +kernel
abbrev c_M_isCard : ByteArray := prog_3_method_6_code
def y_M_isCard : MethodName := ⟨RM, "isCard", "(I)Z"⟩
def ws_M_isCard : List Cond := .code y_M_isCard c_M_isCard 2 (some .boolean) :: zAll
theorem wc_M_isCard : Cond.code y_M_isCard c_M_isCard 2 (some .boolean) ∈ zAll := by decide +kernel
abbrev c_M_space : ByteArray := prog_3_method_7_code
def y_M_space : MethodName := ⟨RM, "space", "(I)I"⟩
def ws_M_space : List Cond := .code y_M_space c_M_space 4 (some .int) :: zAll
theorem wc_M_space : Cond.code y_M_space c_M_space 4 (some .int) ∈ zAll := by decide +kernel
abbrev c_M_from : ByteArray := prog_3_method_8_code
def y_M_from : MethodName := ⟨RM, "from", "(I)I"⟩
def ws_M_from : List Cond := .code y_M_from c_M_from 3 (some .int) :: zAll
theorem wc_M_from : Cond.code y_M_from c_M_from 3 (some .int) ∈ zAll := by decide +kernel
abbrev c_M_behind : ByteArray := prog_3_method_9_code
def y_M_behind : MethodName := ⟨RM, "behind", "(I)I"⟩
def ws_M_behind : List Cond := .code y_M_behind c_M_behind 3 (some .int) :: zAll
theorem wc_M_behind : Cond.code y_M_behind c_M_behind 3 (some .int) ∈ zAll := by decide +kernel
abbrev c_M_pieces : ByteArray := prog_3_method_10_code
def y_M_pieces : MethodName := ⟨RM, "pieces", "()I"⟩
def ws_M_pieces : List Cond := .code y_M_pieces c_M_pieces 3 (some .int) :: zAll
theorem wc_M_pieces : Cond.code y_M_pieces c_M_pieces 3 (some .int) ∈ zAll := by decide +kernel
abbrev c_M_cut : ByteArray := prog_3_method_11_code
def y_M_cut : MethodName := ⟨RM, "cut", "(I)I"⟩
def ws_M_cut : List Cond := .code y_M_cut c_M_cut 3 (some .int) :: zAll
theorem wc_M_cut : Cond.code y_M_cut c_M_cut 3 (some .int) ∈ zAll := by decide +kernel
abbrev c_M_join : ByteArray := prog_3_method_12_code
def y_M_join : MethodName := ⟨RM, "join", "(I)I"⟩
def ws_M_join : List Cond := .code y_M_join c_M_join 3 (some .int) :: zAll
theorem wc_M_join : Cond.code y_M_join c_M_join 3 (some .int) ∈ zAll := by decide +kernel
abbrev c_M_make : ByteArray := prog_3_method_13_code
def y_M_make : MethodName := ⟨RM, "make", "(II)I"⟩
def ws_M_make : List Cond := .code y_M_make c_M_make 4 (some .int) :: zAll
theorem wc_M_make : Cond.code y_M_make c_M_make 4 (some .int) ∈ zAll := by decide +kernel
abbrev c_M_begin : ByteArray := prog_3_method_14_code
def y_M_begin : MethodName := ⟨RM, "begin", "(I)I"⟩
def ws_M_begin : List Cond := .code y_M_begin c_M_begin 2 (some .int) :: zAll
theorem wc_M_begin : Cond.code y_M_begin c_M_begin 2 (some .int) ∈ zAll := by decide +kernel
abbrev c_M_size : ByteArray := prog_3_method_15_code
def y_M_size : MethodName := ⟨RM, "size", "(I)I"⟩
def ws_M_size : List Cond := .code y_M_size c_M_size 2 (some .int) :: zAll
theorem wc_M_size : Cond.code y_M_size c_M_size 2 (some .int) ∈ zAll := by decide +kernel
abbrev c_M_start : ByteArray := prog_3_method_16_code
def y_M_start : MethodName := ⟨RM, "start", "(I)I"⟩
def ws_M_start : List Cond := .code y_M_start c_M_start 2 (some .int) :: zAll
theorem wc_M_start : Cond.code y_M_start c_M_start 2 (some .int) ∈ zAll := by decide +kernel
abbrev c_M_begins : ByteArray := prog_3_method_17_code
def y_M_begins : MethodName := ⟨RM, "begins", "(I)I"⟩
def ws_M_begins : List Cond := .code y_M_begins c_M_begins 4 (some .int) :: zAll
theorem wc_M_begins : Cond.code y_M_begins c_M_begins 4 (some .int) ∈ zAll := by decide +kernel
abbrev c_M_count : ByteArray := prog_3_method_18_code
def y_M_count : MethodName := ⟨RM, "count", "(I)I"⟩
def ws_M_count : List Cond := .code y_M_count c_M_count 6 (some .int) :: zAll
theorem wc_M_count : Cond.code y_M_count c_M_count 6 (some .int) ∈ zAll := by decide +kernel
abbrev c_L_space : ByteArray := method_3_code
def y_L_space : MethodName := ⟨RL, "space", "(LStartTable;I[J)I"⟩
def ws_L_space : List Cond := .codeWith y_L_space c_L_space 4 (some .int) [(0, 9, 12, 13)] :: zAll
theorem wc_L_space : Cond.codeWith y_L_space c_L_space 4 (some .int) [(0, 9, 12, 13)] ∈ zAll := by decide +kernel
abbrev c_L_cut : ByteArray := method_4_code
def y_L_cut : MethodName := ⟨RL, "cut", "(LStartTable;I[J)I"⟩
def ws_L_cut : List Cond := .codeWith y_L_cut c_L_cut 4 (some .int) [(0, 9, 12, 18)] :: zAll
theorem wc_L_cut : Cond.codeWith y_L_cut c_L_cut 4 (some .int) [(0, 9, 12, 18)] ∈ zAll := by decide +kernel
abbrev c_L_join : ByteArray := method_5_code
def y_L_join : MethodName := ⟨RL, "join", "(LStartTable;I[J)I"⟩
def ws_L_join : List Cond := .codeWith y_L_join c_L_join 4 (some .int) [(0, 9, 12, 18)] :: zAll
theorem wc_L_join : Cond.codeWith y_L_join c_L_join 4 (some .int) [(0, 9, 12, 18)] ∈ zAll := by decide +kernel
abbrev c_L_make : ByteArray := method_6_code
def y_L_make : MethodName := ⟨RL, "make", "(LStartTable;II[J)I"⟩
def ws_L_make : List Cond := .codeWith y_L_make c_L_make 5 (some .int) [(0, 10, 13, 18)] :: zAll
theorem wc_L_make : Cond.codeWith y_L_make c_L_make 5 (some .int) [(0, 10, 13, 18)] ∈ zAll := by decide +kernel
abbrev c_L_begin : ByteArray := method_7_code
def y_L_begin : MethodName := ⟨RL, "begin", "(LStartTable;I[J)I"⟩
def ws_L_begin : List Cond := .codeWith y_L_begin c_L_begin 4 (some .int) [(0, 9, 12, 18)] :: zAll
theorem wc_L_begin : Cond.codeWith y_L_begin c_L_begin 4 (some .int) [(0, 9, 12, 18)] ∈ zAll := by decide +kernel
abbrev c_L_size : ByteArray := method_8_code
def y_L_size : MethodName := ⟨RL, "size", "(LStartTable;I[J)I"⟩
def ws_L_size : List Cond := .codeWith y_L_size c_L_size 4 (some .int) [(0, 9, 12, 18)] :: zAll
theorem wc_L_size : Cond.codeWith y_L_size c_L_size 4 (some .int) [(0, 9, 12, 18)] ∈ zAll := by decide +kernel
abbrev c_L_start : ByteArray := method_9_code
def y_L_start : MethodName := ⟨RL, "start", "(LStartTable;I[J)I"⟩
def ws_L_start : List Cond := .codeWith y_L_start c_L_start 4 (some .int) [(0, 9, 12, 18)] :: zAll
theorem wc_L_start : Cond.codeWith y_L_start c_L_start 4 (some .int) [(0, 9, 12, 18)] ∈ zAll := by decide +kernel
abbrev c_L_begins : ByteArray := method_10_code
def y_L_begins : MethodName := ⟨RL, "begins", "(LStartTable;I[J)I"⟩
def ws_L_begins : List Cond := .codeWith y_L_begins c_L_begins 4 (some .int) [(0, 9, 12, 18)] :: zAll
theorem wc_L_begins : Cond.codeWith y_L_begins c_L_begins 4 (some .int) [(0, 9, 12, 18)] ∈ zAll := by decide +kernel
abbrev c_L_count : ByteArray := method_11_code
def y_L_count : MethodName := ⟨RL, "count", "(LStartTable;I[J)I"⟩
def ws_L_count : List Cond := .codeWith y_L_count c_L_count 4 (some .int) [(0, 9, 12, 13)] :: zAll
theorem wc_L_count : Cond.codeWith y_L_count c_L_count 4 (some .int) [(0, 9, 12, 13)] ∈ zAll := by decide +kernel
abbrev c_L_law : ByteArray := code
def y_L_law : MethodName := ⟨RL, "law", "([I)Z"⟩
theorem wl_X_3 : Cond.methodLink RX 3 objectInit ∈ zAll := by decide +kernel
theorem wim_obj : Cond.instanceMethod objectInit ∈ zAll := by decide +kernel
theorem wc_obj : Cond.code objectInit ⟨#[0xb1]⟩ 1 none ∈ zAll := by decide +kernel
theorem wl_X_9 : Cond.fieldLink RX 9 "StartTable" "marks" "[I" ∈ zAll := by decide +kernel
theorem wl_X_13 : Cond.fieldLink RX 13 "StartTable" "starts" "[I" ∈ zAll := by decide +kernel
theorem wl_X_16 : Cond.methodLink RX 16 y_X_layOnePiece ∈ zAll := by decide +kernel
theorem wi_g_X_16 : ∀ w ∈ ([.instanceMethod y_X_layOnePiece, .selects RX y_X_layOnePiece y_X_layOnePiece, .initialized RX] : List Cond), w ∈ zAll := by decide +kernel
theorem g_X_16 : GoodIn zAll (wsV RX 16 RX y_X_layOnePiece ws_X_layOnePiece) := zGl (fun w h => (List.mem_cons.mp h).elim (fun e => by rw [e]; exact wl_X_16) (wi_g_X_16 w)) (zGc wc_X_layOnePiece)
theorem wl_X_20 : Cond.classLink RX 20 "java/lang/IllegalArgumentException" ∈ zAll := by decide +kernel
theorem win_IllegalArgumentException : Cond.initialized "java/lang/IllegalArgumentException" ∈ zAll := by decide +kernel
theorem wl_X_27 : Cond.fieldLink RX 27 "StartTable" "cells" "I" ∈ zAll := by decide +kernel
theorem wl_X_31 : Cond.methodLink RX 31 y_X_checkCell ∈ zAll := by decide +kernel
theorem wi_g_X_31 : ∀ w ∈ ([.instanceMethod y_X_checkCell, .selects RX y_X_checkCell y_X_checkCell, .initialized RX] : List Cond), w ∈ zAll := by decide +kernel
theorem g_X_31 : GoodIn zAll (wsV RX 31 RX y_X_checkCell ws_X_checkCell) := zGl (fun w h => (List.mem_cons.mp h).elim (fun e => by rw [e]; exact wl_X_31) (wi_g_X_31 w)) (zGc wc_X_checkCell)
theorem wl_X_34 : Cond.methodLink RX 34 y_X_beginOf ∈ zAll := by decide +kernel
theorem wi_g_X_34 : ∀ w ∈ ([.instanceMethod y_X_beginOf, .selects RX y_X_beginOf y_X_beginOf, .initialized RX] : List Cond), w ∈ zAll := by decide +kernel
theorem g_X_34 : GoodIn zAll (wsV RX 34 RX y_X_beginOf ws_X_beginOf) := zGl (fun w h => (List.mem_cons.mp h).elim (fun e => by rw [e]; exact wl_X_34) (wi_g_X_34 w)) (zGc wc_X_beginOf)
theorem wl_X_38 : Cond.methodLink RX 38 y_X_cutAt ∈ zAll := by decide +kernel
theorem wi_g_X_38 : ∀ w ∈ ([.instanceMethod y_X_cutAt, .selects RX y_X_cutAt y_X_cutAt, .initialized RX] : List Cond), w ∈ zAll := by decide +kernel
theorem g_X_38 : GoodIn zAll (wsV RX 38 RX y_X_cutAt ws_X_cutAt) := zGl (fun w h => (List.mem_cons.mp h).elim (fun e => by rw [e]; exact wl_X_38) (wi_g_X_38 w)) (zGc wc_X_cutAt)
theorem wl_X_41 : Cond.methodLink RX 41 y_X_endOf ∈ zAll := by decide +kernel
theorem wi_g_X_41 : ∀ w ∈ ([.instanceMethod y_X_endOf, .selects RX y_X_endOf y_X_endOf, .initialized RX] : List Cond), w ∈ zAll := by decide +kernel
theorem g_X_41 : GoodIn zAll (wsV RX 41 RX y_X_endOf ws_X_endOf) := zGl (fun w h => (List.mem_cons.mp h).elim (fun e => by rw [e]; exact wl_X_41) (wi_g_X_41 w)) (zGc wc_X_endOf)
theorem wl_X_44 : Cond.methodLink RX 44 y_X_merge ∈ zAll := by decide +kernel
theorem wi_g_X_44 : ∀ w ∈ ([.instanceMethod y_X_merge, .selects RX y_X_merge y_X_merge, .initialized RX] : List Cond), w ∈ zAll := by decide +kernel
theorem g_X_44 : GoodIn zAll (wsV RX 44 RX y_X_merge ws_X_merge) := zGl (fun w h => (List.mem_cons.mp h).elim (fun e => by rw [e]; exact wl_X_44) (wi_g_X_44 w)) (zGc wc_X_merge)
theorem wl_X_48 : Cond.classLink RX 48 "java/lang/IndexOutOfBoundsException" ∈ zAll := by decide +kernel
theorem win_IndexOutOfBoundsException : Cond.initialized "java/lang/IndexOutOfBoundsException" ∈ zAll := by decide +kernel
theorem wl_X_53 : Cond.fieldLink RX 53 "StartTable" "pieces" "I" ∈ zAll := by decide +kernel
theorem wl_X_56 : Cond.methodLink RX 56 y_X_checkCard ∈ zAll := by decide +kernel
theorem wi_g_X_56 : ∀ w ∈ ([.instanceMethod y_X_checkCard, .selects RX y_X_checkCard y_X_checkCard, .initialized RX] : List Cond), w ∈ zAll := by decide +kernel
theorem g_X_56 : GoodIn zAll (wsV RX 56 RX y_X_checkCard ws_X_checkCard) := zGl (fun w h => (List.mem_cons.mp h).elim (fun e => by rw [e]; exact wl_X_56) (wi_g_X_56 w)) (zGc wc_X_checkCard)
theorem wl_X_59 : Cond.methodLink RX 59 y_pop ∈ zAll := by decide +kernel
theorem wi_g_X_59 : ∀ w ∈ ([.static y_pop, .initialized RI] : List Cond), w ∈ zAll := by decide +kernel
theorem g_X_59 : GoodIn zAll (va_wsS RX 59 y_pop ws_pop) := zGl (fun w h => (List.mem_cons.mp h).elim (fun e => by rw [e]; exact wl_X_59) (wi_g_X_59 w)) (zGc wc_pop)
theorem wl_X_64 : Cond.methodLink RX 64 y_X_cardCount ∈ zAll := by decide +kernel
theorem wi_g_X_64 : ∀ w ∈ ([.instanceMethod y_X_cardCount, .selects RX y_X_cardCount y_X_cardCount, .initialized RX] : List Cond), w ∈ zAll := by decide +kernel
theorem g_X_64 : GoodIn zAll (wsV RX 64 RX y_X_cardCount ws_X_cardCount) := zGl (fun w h => (List.mem_cons.mp h).elim (fun e => by rw [e]; exact wl_X_64) (wi_g_X_64 w)) (zGc wc_X_cardCount)
theorem wl_X_68 : Cond.methodLink RX 68 y_X_outermostSize ∈ zAll := by decide +kernel
theorem wi_g_X_68 : ∀ w ∈ ([.instanceMethod y_X_outermostSize, .selects RX y_X_outermostSize y_X_outermostSize, .initialized RX] : List Cond), w ∈ zAll := by decide +kernel
theorem g_X_68 : GoodIn zAll (wsV RX 68 RX y_X_outermostSize ws_X_outermostSize) := zGl (fun w h => (List.mem_cons.mp h).elim (fun e => by rw [e]; exact wl_X_68) (wi_g_X_68 w)) (zGc wc_X_outermostSize)
theorem wl_X_78 : Cond.methodLink RX 78 y_fill ∈ zAll := by decide +kernel
theorem wi_g_X_78 : ∀ w ∈ ([.static y_fill, .initialized RA] : List Cond), w ∈ zAll := by decide +kernel
theorem g_X_78 : GoodIn zAll (va_wsS RX 78 y_fill ws_fill) := zGl (fun w h => (List.mem_cons.mp h).elim (fun e => by rw [e]; exact wl_X_78) (wi_g_X_78 w)) (zGc wc_fill)
theorem wl_X_84 : Cond.methodLink RX 84 y_nlz ∈ zAll := by decide +kernel
theorem wi_g_X_84 : ∀ w ∈ ([.static y_nlz, .initialized RI] : List Cond), w ∈ zAll := by decide +kernel
theorem g_X_84 : GoodIn zAll (va_wsS RX 84 y_nlz ws_nlz) := zGl (fun w h => (List.mem_cons.mp h).elim (fun e => by rw [e]; exact wl_X_84) (wi_g_X_84 w)) (zGc wc_nlz)
theorem wl_X_87 : Cond.methodLink RX 87 y_X_firstBeginFrom ∈ zAll := by decide +kernel
theorem wi_g_X_87 : ∀ w ∈ ([.instanceMethod y_X_firstBeginFrom, .selects RX y_X_firstBeginFrom y_X_firstBeginFrom, .initialized RX] : List Cond), w ∈ zAll := by decide +kernel
theorem g_X_87 : GoodIn zAll (wsV RX 87 RX y_X_firstBeginFrom ws_X_firstBeginFrom) := zGl (fun w h => (List.mem_cons.mp h).elim (fun e => by rw [e]; exact wl_X_87) (wi_g_X_87 w)) (zGc wc_X_firstBeginFrom)
theorem wl_X_90 : Cond.methodLink RX 90 y_ntz ∈ zAll := by decide +kernel
theorem wi_g_X_90 : ∀ w ∈ ([.static y_ntz, .initialized RI] : List Cond), w ∈ zAll := by decide +kernel
theorem g_X_90 : GoodIn zAll (va_wsS RX 90 y_ntz ws_ntz) := zGl (fun w h => (List.mem_cons.mp h).elim (fun e => by rw [e]; exact wl_X_90) (wi_g_X_90 w)) (zGc wc_ntz)
theorem wl_X_93 : Cond.methodLink RX 93 y_X_bitOf ∈ zAll := by decide +kernel
theorem wi_g_X_93 : ∀ w ∈ ([.static y_X_bitOf, .initialized RX] : List Cond), w ∈ zAll := by decide +kernel
theorem g_X_93 : GoodIn zAll (va_wsS RX 93 y_X_bitOf ws_X_bitOf) := zGl (fun w h => (List.mem_cons.mp h).elim (fun e => by rw [e]; exact wl_X_93) (wi_g_X_93 w)) (zGc wc_X_bitOf)
theorem wl_X_96 : Cond.methodLink RX 96 y_X_tellStarts ∈ zAll := by decide +kernel
theorem wi_g_X_96 : ∀ w ∈ ([.instanceMethod y_X_tellStarts, .selects RX y_X_tellStarts y_X_tellStarts, .initialized RX] : List Cond), w ∈ zAll := by decide +kernel
theorem g_X_96 : GoodIn zAll (wsV RX 96 RX y_X_tellStarts ws_X_tellStarts) := zGl (fun w h => (List.mem_cons.mp h).elim (fun e => by rw [e]; exact wl_X_96) (wi_g_X_96 w)) (zGc wc_X_tellStarts)
theorem wl_X_99 : Cond.methodLink RX 99 Lib.Math.max.name ∈ zAll := by decide +kernel
theorem wst_max : Cond.static Lib.Math.max.name ∈ zAll := by decide +kernel
theorem win_Math : Cond.initialized "java/lang/Math" ∈ zAll := by decide +kernel
theorem wc_max : Cond.code Lib.Math.max.name Lib.Math.max.code 2 (some .int) ∈ zAll := by decide +kernel
theorem wl_X_105 : Cond.methodLink RX 105 Lib.Math.min.name ∈ zAll := by decide +kernel
theorem wst_min : Cond.static Lib.Math.min.name ∈ zAll := by decide +kernel
theorem wc_min : Cond.code Lib.Math.min.name Lib.Math.min.code 2 (some .int) ∈ zAll := by decide +kernel
theorem wl_M_1 : Cond.methodLink RM 1 objectInit ∈ zAll := by decide +kernel
theorem wl_M_7 : Cond.fieldLink RM 7 "StartTableModel" "cells" "I" ∈ zAll := by decide +kernel
theorem wl_M_13 : Cond.fieldLink RM 13 "StartTableModel" "begins" "[Z" ∈ zAll := by decide +kernel
theorem wl_M_17 : Cond.fieldLink RM 17 "StartTableModel" "thrown" "I" ∈ zAll := by decide +kernel
theorem wl_M_20 : Cond.methodLink RM 20 y_M_cards ∈ zAll := by decide +kernel
theorem wi_g_M_20 : ∀ w ∈ ([.instanceMethod y_M_cards, .selects RM y_M_cards y_M_cards, .initialized RM] : List Cond), w ∈ zAll := by decide +kernel
theorem g_M_20 : GoodIn zAll (wsV RM 20 RM y_M_cards ws_M_cards) := zGl (fun w h => (List.mem_cons.mp h).elim (fun e => by rw [e]; exact wl_M_20) (wi_g_M_20 w)) (zGc wc_M_cards)
theorem wl_M_24 : Cond.methodLink RM 24 y_M_goes ∈ zAll := by decide +kernel
theorem wi_g_M_24 : ∀ w ∈ ([.instanceMethod y_M_goes, .selects RM y_M_goes y_M_goes, .initialized RM] : List Cond), w ∈ zAll := by decide +kernel
theorem g_M_24 : GoodIn zAll (wsV RM 24 RM y_M_goes ws_M_goes) := zGl (fun w h => (List.mem_cons.mp h).elim (fun e => by rw [e]; exact wl_M_24) (wi_g_M_24 w)) (zGc wc_M_goes)
theorem wl_M_28 : Cond.methodLink RM 28 y_M_isCell ∈ zAll := by decide +kernel
theorem wi_g_M_28 : ∀ w ∈ ([.instanceMethod y_M_isCell, .selects RM y_M_isCell y_M_isCell, .initialized RM] : List Cond), w ∈ zAll := by decide +kernel
theorem g_M_28 : GoodIn zAll (wsV RM 28 RM y_M_isCell ws_M_isCell) := zGl (fun w h => (List.mem_cons.mp h).elim (fun e => by rw [e]; exact wl_M_28) (wi_g_M_28 w)) (zGc wc_M_isCell)
theorem wl_M_32 : Cond.methodLink RM 32 y_M_from ∈ zAll := by decide +kernel
theorem wi_g_M_32 : ∀ w ∈ ([.instanceMethod y_M_from, .selects RM y_M_from y_M_from, .initialized RM] : List Cond), w ∈ zAll := by decide +kernel
theorem g_M_32 : GoodIn zAll (wsV RM 32 RM y_M_from ws_M_from) := zGl (fun w h => (List.mem_cons.mp h).elim (fun e => by rw [e]; exact wl_M_32) (wi_g_M_32 w)) (zGc wc_M_from)
theorem wl_M_36 : Cond.methodLink RM 36 y_M_behind ∈ zAll := by decide +kernel
theorem wi_g_M_36 : ∀ w ∈ ([.instanceMethod y_M_behind, .selects RM y_M_behind y_M_behind, .initialized RM] : List Cond), w ∈ zAll := by decide +kernel
theorem g_M_36 : GoodIn zAll (wsV RM 36 RM y_M_behind ws_M_behind) := zGl (fun w h => (List.mem_cons.mp h).elim (fun e => by rw [e]; exact wl_M_36) (wi_g_M_36 w)) (zGc wc_M_behind)
theorem wl_M_39 : Cond.methodLink RM 39 y_M_pieces ∈ zAll := by decide +kernel
theorem wi_g_M_39 : ∀ w ∈ ([.instanceMethod y_M_pieces, .selects RM y_M_pieces y_M_pieces, .initialized RM] : List Cond), w ∈ zAll := by decide +kernel
theorem g_M_39 : GoodIn zAll (wsV RM 39 RM y_M_pieces ws_M_pieces) := zGl (fun w h => (List.mem_cons.mp h).elim (fun e => by rw [e]; exact wl_M_39) (wi_g_M_39 w)) (zGc wc_M_pieces)
theorem wl_M_42 : Cond.methodLink RM 42 y_M_isCard ∈ zAll := by decide +kernel
theorem wi_g_M_42 : ∀ w ∈ ([.instanceMethod y_M_isCard, .selects RM y_M_isCard y_M_isCard, .initialized RM] : List Cond), w ∈ zAll := by decide +kernel
theorem g_M_42 : GoodIn zAll (wsV RM 42 RM y_M_isCard ws_M_isCard) := zGl (fun w h => (List.mem_cons.mp h).elim (fun e => by rw [e]; exact wl_M_42) (wi_g_M_42 w)) (zGc wc_M_isCard)
theorem wl_L_7 : Cond.methodLink RL 7 y_X_space ∈ zAll := by decide +kernel
theorem wi_g_L_7 : ∀ w ∈ ([.instanceMethod y_X_space, .selects RX y_X_space y_X_space, .initialized RX] : List Cond), w ∈ zAll := by decide +kernel
theorem g_L_7 : GoodIn zAll (wsV RL 7 RX y_X_space ws_X_space) := zGl (fun w h => (List.mem_cons.mp h).elim (fun e => by rw [e]; exact wl_L_7) (wi_g_L_7 w)) (zGc wc_X_space)
theorem wl_L_15 : Cond.methodLink RL 15 y_X_cut ∈ zAll := by decide +kernel
theorem wi_g_L_15 : ∀ w ∈ ([.instanceMethod y_X_cut, .selects RX y_X_cut y_X_cut, .initialized RX] : List Cond), w ∈ zAll := by decide +kernel
theorem g_L_15 : GoodIn zAll (wsV RL 15 RX y_X_cut ws_X_cut) := zGl (fun w h => (List.mem_cons.mp h).elim (fun e => by rw [e]; exact wl_L_15) (wi_g_L_15 w)) (zGc wc_X_cut)
theorem wl_L_20 : Cond.methodLink RL 20 y_X_join ∈ zAll := by decide +kernel
theorem wi_g_L_20 : ∀ w ∈ ([.instanceMethod y_X_join, .selects RX y_X_join y_X_join, .initialized RX] : List Cond), w ∈ zAll := by decide +kernel
theorem g_L_20 : GoodIn zAll (wsV RL 20 RX y_X_join ws_X_join) := zGl (fun w h => (List.mem_cons.mp h).elim (fun e => by rw [e]; exact wl_L_20) (wi_g_L_20 w)) (zGc wc_X_join)
theorem wl_L_23 : Cond.methodLink RL 23 y_X_make ∈ zAll := by decide +kernel
theorem wi_g_L_23 : ∀ w ∈ ([.instanceMethod y_X_make, .selects RX y_X_make y_X_make, .initialized RX] : List Cond), w ∈ zAll := by decide +kernel
theorem g_L_23 : GoodIn zAll (wsV RL 23 RX y_X_make ws_X_make) := zGl (fun w h => (List.mem_cons.mp h).elim (fun e => by rw [e]; exact wl_L_23) (wi_g_L_23 w)) (zGc wc_X_make)
theorem wl_L_27 : Cond.methodLink RL 27 y_X_begin ∈ zAll := by decide +kernel
theorem wi_g_L_27 : ∀ w ∈ ([.instanceMethod y_X_begin, .selects RX y_X_begin y_X_begin, .initialized RX] : List Cond), w ∈ zAll := by decide +kernel
theorem g_L_27 : GoodIn zAll (wsV RL 27 RX y_X_begin ws_X_begin) := zGl (fun w h => (List.mem_cons.mp h).elim (fun e => by rw [e]; exact wl_L_27) (wi_g_L_27 w)) (zGc wc_X_begin)
theorem wl_L_30 : Cond.methodLink RL 30 y_X_size ∈ zAll := by decide +kernel
theorem wi_g_L_30 : ∀ w ∈ ([.instanceMethod y_X_size, .selects RX y_X_size y_X_size, .initialized RX] : List Cond), w ∈ zAll := by decide +kernel
theorem g_L_30 : GoodIn zAll (wsV RL 30 RX y_X_size ws_X_size) := zGl (fun w h => (List.mem_cons.mp h).elim (fun e => by rw [e]; exact wl_L_30) (wi_g_L_30 w)) (zGc wc_X_size)
theorem wl_L_33 : Cond.methodLink RL 33 y_X_start ∈ zAll := by decide +kernel
theorem wi_g_L_33 : ∀ w ∈ ([.instanceMethod y_X_start, .selects RX y_X_start y_X_start, .initialized RX] : List Cond), w ∈ zAll := by decide +kernel
theorem g_L_33 : GoodIn zAll (wsV RL 33 RX y_X_start ws_X_start) := zGl (fun w h => (List.mem_cons.mp h).elim (fun e => by rw [e]; exact wl_L_33) (wi_g_L_33 w)) (zGc wc_X_start)
theorem wl_L_36 : Cond.methodLink RL 36 y_X_begins ∈ zAll := by decide +kernel
theorem wi_g_L_36 : ∀ w ∈ ([.instanceMethod y_X_begins, .selects RX y_X_begins y_X_begins, .initialized RX] : List Cond), w ∈ zAll := by decide +kernel
theorem g_L_36 : GoodIn zAll (wsV RL 36 RX y_X_begins ws_X_begins) := zGl (fun w h => (List.mem_cons.mp h).elim (fun e => by rw [e]; exact wl_L_36) (wi_g_L_36 w)) (zGc wc_X_begins)
theorem wl_L_39 : Cond.methodLink RL 39 y_X_count ∈ zAll := by decide +kernel
theorem wi_g_L_39 : ∀ w ∈ ([.instanceMethod y_X_count, .selects RX y_X_count y_X_count, .initialized RX] : List Cond), w ∈ zAll := by decide +kernel
theorem g_L_39 : GoodIn zAll (wsV RL 39 RX y_X_count ws_X_count) := zGl (fun w h => (List.mem_cons.mp h).elim (fun e => by rw [e]; exact wl_L_39) (wi_g_L_39 w)) (zGc wc_X_count)
theorem wl_L_8 : Cond.classLink RL 8 RX ∈ zAll := by decide +kernel
theorem win_X : Cond.initialized RX ∈ zAll := by decide +kernel
theorem wio_X : Cond.instantiable RX 4 ∈ zAll := by decide +kernel
theorem wl_L_42 : Cond.methodLink RL 42 y_X_init ∈ zAll := by decide +kernel
theorem g_L_42 : GoodIn zAll ws_X_init := zGc wc_X_init
theorem wim_X_init : Cond.instanceMethod y_X_init ∈ zAll := by decide +kernel
theorem wl_L_43 : Cond.classLink RL 43 RM ∈ zAll := by decide +kernel
theorem win_M : Cond.initialized RM ∈ zAll := by decide +kernel
theorem wio_M : Cond.instantiable RM 3 ∈ zAll := by decide +kernel
theorem wl_L_45 : Cond.methodLink RL 45 y_M_init ∈ zAll := by decide +kernel
theorem g_L_45 : GoodIn zAll ws_M_init := zGc wc_M_init
theorem wim_M_init : Cond.instanceMethod y_M_init ∈ zAll := by decide +kernel
theorem wl_L_46 : Cond.methodLink RL 46 y_L_space ∈ zAll := by decide +kernel
theorem wi_g_L_46 : ∀ w ∈ ([.static y_L_space, .initialized RL] : List Cond), w ∈ zAll := by decide +kernel
theorem g_L_46 : GoodIn zAll (va_wsS RL 46 y_L_space ws_L_space) := zGl (fun w h => (List.mem_cons.mp h).elim (fun e => by rw [e]; exact wl_L_46) (wi_g_L_46 w)) (zGw wc_L_space)
theorem wl_L_51 : Cond.methodLink RL 51 y_M_space ∈ zAll := by decide +kernel
theorem wi_g_L_51 : ∀ w ∈ ([.instanceMethod y_M_space, .selects RM y_M_space y_M_space, .initialized RM] : List Cond), w ∈ zAll := by decide +kernel
theorem g_L_51 : GoodIn zAll (wsV RL 51 RM y_M_space ws_M_space) := zGl (fun w h => (List.mem_cons.mp h).elim (fun e => by rw [e]; exact wl_L_51) (wi_g_L_51 w)) (zGc wc_M_space)
theorem wl_L_52 : Cond.methodLink RL 52 y_M_thrown ∈ zAll := by decide +kernel
theorem wi_g_L_52 : ∀ w ∈ ([.instanceMethod y_M_thrown, .selects RM y_M_thrown y_M_thrown, .initialized RM] : List Cond), w ∈ zAll := by decide +kernel
theorem g_L_52 : GoodIn zAll (wsV RL 52 RM y_M_thrown ws_M_thrown) := zGl (fun w h => (List.mem_cons.mp h).elim (fun e => by rw [e]; exact wl_L_52) (wi_g_L_52 w)) (zGc wc_M_thrown)
theorem wl_L_56 : Cond.methodLink RL 56 y_L_cut ∈ zAll := by decide +kernel
theorem wi_g_L_56 : ∀ w ∈ ([.static y_L_cut, .initialized RL] : List Cond), w ∈ zAll := by decide +kernel
theorem g_L_56 : GoodIn zAll (va_wsS RL 56 y_L_cut ws_L_cut) := zGl (fun w h => (List.mem_cons.mp h).elim (fun e => by rw [e]; exact wl_L_56) (wi_g_L_56 w)) (zGw wc_L_cut)
theorem wl_L_58 : Cond.methodLink RL 58 y_M_cut ∈ zAll := by decide +kernel
theorem wi_g_L_58 : ∀ w ∈ ([.instanceMethod y_M_cut, .selects RM y_M_cut y_M_cut, .initialized RM] : List Cond), w ∈ zAll := by decide +kernel
theorem g_L_58 : GoodIn zAll (wsV RL 58 RM y_M_cut ws_M_cut) := zGl (fun w h => (List.mem_cons.mp h).elim (fun e => by rw [e]; exact wl_L_58) (wi_g_L_58 w)) (zGc wc_M_cut)
theorem wl_L_59 : Cond.methodLink RL 59 y_L_join ∈ zAll := by decide +kernel
theorem wi_g_L_59 : ∀ w ∈ ([.static y_L_join, .initialized RL] : List Cond), w ∈ zAll := by decide +kernel
theorem g_L_59 : GoodIn zAll (va_wsS RL 59 y_L_join ws_L_join) := zGl (fun w h => (List.mem_cons.mp h).elim (fun e => by rw [e]; exact wl_L_59) (wi_g_L_59 w)) (zGw wc_L_join)
theorem wl_L_61 : Cond.methodLink RL 61 y_M_join ∈ zAll := by decide +kernel
theorem wi_g_L_61 : ∀ w ∈ ([.instanceMethod y_M_join, .selects RM y_M_join y_M_join, .initialized RM] : List Cond), w ∈ zAll := by decide +kernel
theorem g_L_61 : GoodIn zAll (wsV RL 61 RM y_M_join ws_M_join) := zGl (fun w h => (List.mem_cons.mp h).elim (fun e => by rw [e]; exact wl_L_61) (wi_g_L_61 w)) (zGc wc_M_join)
theorem wl_L_62 : Cond.methodLink RL 62 y_L_make ∈ zAll := by decide +kernel
theorem wi_g_L_62 : ∀ w ∈ ([.static y_L_make, .initialized RL] : List Cond), w ∈ zAll := by decide +kernel
theorem g_L_62 : GoodIn zAll (va_wsS RL 62 y_L_make ws_L_make) := zGl (fun w h => (List.mem_cons.mp h).elim (fun e => by rw [e]; exact wl_L_62) (wi_g_L_62 w)) (zGw wc_L_make)
theorem wl_L_65 : Cond.methodLink RL 65 y_M_make ∈ zAll := by decide +kernel
theorem wi_g_L_65 : ∀ w ∈ ([.instanceMethod y_M_make, .selects RM y_M_make y_M_make, .initialized RM] : List Cond), w ∈ zAll := by decide +kernel
theorem g_L_65 : GoodIn zAll (wsV RL 65 RM y_M_make ws_M_make) := zGl (fun w h => (List.mem_cons.mp h).elim (fun e => by rw [e]; exact wl_L_65) (wi_g_L_65 w)) (zGc wc_M_make)
theorem wl_L_66 : Cond.methodLink RL 66 y_L_begin ∈ zAll := by decide +kernel
theorem wi_g_L_66 : ∀ w ∈ ([.static y_L_begin, .initialized RL] : List Cond), w ∈ zAll := by decide +kernel
theorem g_L_66 : GoodIn zAll (va_wsS RL 66 y_L_begin ws_L_begin) := zGl (fun w h => (List.mem_cons.mp h).elim (fun e => by rw [e]; exact wl_L_66) (wi_g_L_66 w)) (zGw wc_L_begin)
theorem wl_L_68 : Cond.methodLink RL 68 y_M_begin ∈ zAll := by decide +kernel
theorem wi_g_L_68 : ∀ w ∈ ([.instanceMethod y_M_begin, .selects RM y_M_begin y_M_begin, .initialized RM] : List Cond), w ∈ zAll := by decide +kernel
theorem g_L_68 : GoodIn zAll (wsV RL 68 RM y_M_begin ws_M_begin) := zGl (fun w h => (List.mem_cons.mp h).elim (fun e => by rw [e]; exact wl_L_68) (wi_g_L_68 w)) (zGc wc_M_begin)
theorem wl_L_69 : Cond.methodLink RL 69 y_L_size ∈ zAll := by decide +kernel
theorem wi_g_L_69 : ∀ w ∈ ([.static y_L_size, .initialized RL] : List Cond), w ∈ zAll := by decide +kernel
theorem g_L_69 : GoodIn zAll (va_wsS RL 69 y_L_size ws_L_size) := zGl (fun w h => (List.mem_cons.mp h).elim (fun e => by rw [e]; exact wl_L_69) (wi_g_L_69 w)) (zGw wc_L_size)
theorem wl_L_71 : Cond.methodLink RL 71 y_M_size ∈ zAll := by decide +kernel
theorem wi_g_L_71 : ∀ w ∈ ([.instanceMethod y_M_size, .selects RM y_M_size y_M_size, .initialized RM] : List Cond), w ∈ zAll := by decide +kernel
theorem g_L_71 : GoodIn zAll (wsV RL 71 RM y_M_size ws_M_size) := zGl (fun w h => (List.mem_cons.mp h).elim (fun e => by rw [e]; exact wl_L_71) (wi_g_L_71 w)) (zGc wc_M_size)
theorem wl_L_72 : Cond.methodLink RL 72 y_L_start ∈ zAll := by decide +kernel
theorem wi_g_L_72 : ∀ w ∈ ([.static y_L_start, .initialized RL] : List Cond), w ∈ zAll := by decide +kernel
theorem g_L_72 : GoodIn zAll (va_wsS RL 72 y_L_start ws_L_start) := zGl (fun w h => (List.mem_cons.mp h).elim (fun e => by rw [e]; exact wl_L_72) (wi_g_L_72 w)) (zGw wc_L_start)
theorem wl_L_74 : Cond.methodLink RL 74 y_M_start ∈ zAll := by decide +kernel
theorem wi_g_L_74 : ∀ w ∈ ([.instanceMethod y_M_start, .selects RM y_M_start y_M_start, .initialized RM] : List Cond), w ∈ zAll := by decide +kernel
theorem g_L_74 : GoodIn zAll (wsV RL 74 RM y_M_start ws_M_start) := zGl (fun w h => (List.mem_cons.mp h).elim (fun e => by rw [e]; exact wl_L_74) (wi_g_L_74 w)) (zGc wc_M_start)
theorem wl_L_75 : Cond.methodLink RL 75 y_L_begins ∈ zAll := by decide +kernel
theorem wi_g_L_75 : ∀ w ∈ ([.static y_L_begins, .initialized RL] : List Cond), w ∈ zAll := by decide +kernel
theorem g_L_75 : GoodIn zAll (va_wsS RL 75 y_L_begins ws_L_begins) := zGl (fun w h => (List.mem_cons.mp h).elim (fun e => by rw [e]; exact wl_L_75) (wi_g_L_75 w)) (zGw wc_L_begins)
theorem wl_L_77 : Cond.methodLink RL 77 y_M_begins ∈ zAll := by decide +kernel
theorem wi_g_L_77 : ∀ w ∈ ([.instanceMethod y_M_begins, .selects RM y_M_begins y_M_begins, .initialized RM] : List Cond), w ∈ zAll := by decide +kernel
theorem g_L_77 : GoodIn zAll (wsV RL 77 RM y_M_begins ws_M_begins) := zGl (fun w h => (List.mem_cons.mp h).elim (fun e => by rw [e]; exact wl_L_77) (wi_g_L_77 w)) (zGc wc_M_begins)
theorem wl_L_78 : Cond.methodLink RL 78 y_L_count ∈ zAll := by decide +kernel
theorem wi_g_L_78 : ∀ w ∈ ([.static y_L_count, .initialized RL] : List Cond), w ∈ zAll := by decide +kernel
theorem g_L_78 : GoodIn zAll (va_wsS RL 78 y_L_count ws_L_count) := zGl (fun w h => (List.mem_cons.mp h).elim (fun e => by rw [e]; exact wl_L_78) (wi_g_L_78 w)) (zGw wc_L_count)
theorem wl_L_80 : Cond.methodLink RL 80 y_M_count ∈ zAll := by decide +kernel
theorem wi_g_L_80 : ∀ w ∈ ([.instanceMethod y_M_count, .selects RM y_M_count y_M_count, .initialized RM] : List Cond), w ∈ zAll := by decide +kernel
theorem g_L_80 : GoodIn zAll (wsV RL 80 RM y_M_count ws_M_count) := zGl (fun w h => (List.mem_cons.mp h).elim (fun e => by rw [e]; exact wl_L_80) (wi_g_L_80 w)) (zGc wc_M_count)
theorem wac_int : Cond.arrayClass .int ∈ zAll := by decide +kernel
theorem wac_long : Cond.arrayClass .long ∈ zAll := by decide +kernel
theorem wac_bool : Cond.arrayClass .boolean ∈ zAll := by decide +kernel
theorem wk_264 : Cond.constant RI 264 65536 ∈ zAll := by decide +kernel
theorem wk_265 : Cond.constant RI 265 1431655765 ∈ zAll := by decide +kernel
theorem wk_266 : Cond.constant RI 266 858993459 ∈ zAll := by decide +kernel
theorem wk_267 : Cond.constant RI 267 252645135 ∈ zAll := by decide +kernel
def zBad : List Cond := [.castable "java/lang/IllegalArgumentException" "java/lang/IllegalArgumentException", .castable "java/lang/IndexOutOfBoundsException" "java/lang/IndexOutOfBoundsException", .declares ⟨"java/lang/RuntimeException", "<init>", "(Ljava/lang/String;)V"⟩, .declares ⟨"java/lang/Exception", "<init>", "(Ljava/lang/String;)V"⟩, .declares ⟨"java/lang/Throwable", "<init>", "(Ljava/lang/String;)V"⟩]
theorem zBad_on : ∀ w ∈ zBad, w.onTables = true := by decide +kernel
theorem wx_IllegalArgumentException : ∀ w ∈ (vx_atS RX 24 "java/lang/IllegalArgumentException" ["java/lang/RuntimeException", "java/lang/Exception"]).filter goodWord, w ∈ zAll := by decide +kernel
theorem wb_IllegalArgumentException : ∀ w ∈ (vx_atS RX 24 "java/lang/IllegalArgumentException" ["java/lang/RuntimeException", "java/lang/Exception"]).filter (fun w => !goodWord w), w ∈ zBad := by decide +kernel
theorem wg_IllegalArgumentException : ∀ w ∈ Cond.classLink RX 20 "java/lang/IllegalArgumentException" :: Cond.initialized "java/lang/IllegalArgumentException" :: vx_atS RX 24 "java/lang/IllegalArgumentException" ["java/lang/RuntimeException", "java/lang/Exception"], vx_ot w = true := by decide +kernel
theorem wx_IndexOutOfBoundsException : ∀ w ∈ (vx_atS RX 52 "java/lang/IndexOutOfBoundsException" ["java/lang/RuntimeException", "java/lang/Exception"]).filter goodWord, w ∈ zAll := by decide +kernel
theorem wb_IndexOutOfBoundsException : ∀ w ∈ (vx_atS RX 52 "java/lang/IndexOutOfBoundsException" ["java/lang/RuntimeException", "java/lang/Exception"]).filter (fun w => !goodWord w), w ∈ zBad := by decide +kernel
theorem wg_IndexOutOfBoundsException : ∀ w ∈ Cond.classLink RX 48 "java/lang/IndexOutOfBoundsException" :: Cond.initialized "java/lang/IndexOutOfBoundsException" :: vx_atS RX 52 "java/lang/IndexOutOfBoundsException" ["java/lang/RuntimeException", "java/lang/Exception"], vx_ot w = true := by decide +kernel
def zTexts : List (String × Nat × String) := [(RX, 22, "there are 1 to 16384 cells"), (RX, 50, "no such end of a piece"), (RX, 72, "there is no such count"), (RX, 74, "no such cell"), (RX, 76, "no such card")]
abbrev wX (h0 h1 h2 : Nat) (cA cB : ClassId) (M S : Nat → Int32) (n p : Int32) : va_W := [(h0, .inr (0, [.ref h1, .ref h2, .int n, .int p])), (h1, .inl (cA, 512, .inl M)), (h2, .inl (cB, 512, .inl S))]
abbrev tX (cA cB : ClassId) : List (ClassId × FieldType) := [(cA, .int), (cB, .int)]
end
section
theorem d_X_init_0 : decode c_X_init 0 = .ok (.aload_n 0, 1) := by decide +kernel
theorem d_X_init_1 : decode c_X_init 1 = .ok (.invokespecial 3, 3) := by decide +kernel
theorem d_X_init_4 : decode c_X_init 4 = .ok (.aload_n 0, 1) := by decide +kernel
theorem d_X_init_5 : decode c_X_init 5 = .ok (.sipush 512, 3) := by decide +kernel
theorem d_X_init_8 : decode c_X_init 8 = .ok (.newarray .int, 2) := by decide +kernel
theorem d_X_init_10 : decode c_X_init 10 = .ok (.putfield 9, 3) := by decide +kernel
theorem d_X_init_13 : decode c_X_init 13 = .ok (.aload_n 0, 1) := by decide +kernel
theorem d_X_init_14 : decode c_X_init 14 = .ok (.sipush 512, 3) := by decide +kernel
theorem d_X_init_17 : decode c_X_init 17 = .ok (.newarray .int, 2) := by decide +kernel
theorem d_X_init_19 : decode c_X_init 19 = .ok (.putfield 13, 3) := by decide +kernel
theorem d_X_init_22 : decode c_X_init 22 = .ok (.aload_n 0, 1) := by decide +kernel
theorem d_X_init_23 : decode c_X_init 23 = .ok (.sipush 1024, 3) := by decide +kernel
theorem d_X_init_26 : decode c_X_init 26 = .ok (.invokevirtual 16, 3) := by decide +kernel
theorem d_X_init_29 : decode c_X_init 29 = .ok (.return_, 1) := by decide +kernel
theorem d_X_space_0 : decode c_X_space 0 = .ok (.iload_n 1, 1) := by decide +kernel
theorem d_X_space_1 : decode c_X_space 1 = .ok (.iconst 1, 1) := by decide +kernel
theorem d_X_space_2 : decode c_X_space 2 = .ok (.if_icmp .lt 10, 3) := by decide +kernel
theorem d_X_space_5 : decode c_X_space 5 = .ok (.iload_n 1, 1) := by decide +kernel
theorem d_X_space_6 : decode c_X_space 6 = .ok (.sipush 16384, 3) := by decide +kernel
theorem d_X_space_9 : decode c_X_space 9 = .ok (.if_icmp .le 13, 3) := by decide +kernel
theorem d_X_space_12 : decode c_X_space 12 = .ok (.new 20, 3) := by decide +kernel
theorem d_X_space_15 : decode c_X_space 15 = .ok (.dup, 1) := by decide +kernel
theorem d_X_space_16 : decode c_X_space 16 = .ok (.ldc 22, 2) := by decide +kernel
theorem d_X_space_18 : decode c_X_space 18 = .ok (.invokespecial 24, 3) := by decide +kernel
theorem d_X_space_21 : decode c_X_space 21 = .ok (.athrow, 1) := by decide +kernel
theorem d_X_space_22 : decode c_X_space 22 = .ok (.aload_n 0, 1) := by decide +kernel
theorem d_X_space_23 : decode c_X_space 23 = .ok (.getfield 27, 3) := by decide +kernel
theorem d_X_space_26 : decode c_X_space 26 = .ok (.istore_n 2, 1) := by decide +kernel
theorem d_X_space_27 : decode c_X_space 27 = .ok (.aload_n 0, 1) := by decide +kernel
theorem d_X_space_28 : decode c_X_space 28 = .ok (.iload_n 1, 1) := by decide +kernel
theorem d_X_space_29 : decode c_X_space 29 = .ok (.invokevirtual 16, 3) := by decide +kernel
theorem d_X_space_32 : decode c_X_space 32 = .ok (.iload_n 2, 1) := by decide +kernel
theorem d_X_space_33 : decode c_X_space 33 = .ok (.ireturn, 1) := by decide +kernel
theorem d_X_cut_0 : decode c_X_cut 0 = .ok (.aload_n 0, 1) := by decide +kernel
theorem d_X_cut_1 : decode c_X_cut 1 = .ok (.iload_n 1, 1) := by decide +kernel
theorem d_X_cut_2 : decode c_X_cut 2 = .ok (.invokevirtual 31, 3) := by decide +kernel
theorem d_X_cut_5 : decode c_X_cut 5 = .ok (.iload_n 1, 1) := by decide +kernel
theorem d_X_cut_6 : decode c_X_cut 6 = .ok (.aload_n 0, 1) := by decide +kernel
theorem d_X_cut_7 : decode c_X_cut 7 = .ok (.iload_n 1, 1) := by decide +kernel
theorem d_X_cut_8 : decode c_X_cut 8 = .ok (.invokevirtual 34, 3) := by decide +kernel
theorem d_X_cut_11 : decode c_X_cut 11 = .ok (.isub, 1) := by decide +kernel
theorem d_X_cut_12 : decode c_X_cut 12 = .ok (.istore_n 2, 1) := by decide +kernel
theorem d_X_cut_13 : decode c_X_cut 13 = .ok (.aload_n 0, 1) := by decide +kernel
theorem d_X_cut_14 : decode c_X_cut 14 = .ok (.iload_n 1, 1) := by decide +kernel
theorem d_X_cut_15 : decode c_X_cut 15 = .ok (.invokevirtual 38, 3) := by decide +kernel
theorem d_X_cut_18 : decode c_X_cut 18 = .ok (.iload_n 2, 1) := by decide +kernel
theorem d_X_cut_19 : decode c_X_cut 19 = .ok (.ireturn, 1) := by decide +kernel
theorem d_X_join_0 : decode c_X_join 0 = .ok (.aload_n 0, 1) := by decide +kernel
theorem d_X_join_1 : decode c_X_join 1 = .ok (.iload_n 1, 1) := by decide +kernel
theorem d_X_join_2 : decode c_X_join 2 = .ok (.invokevirtual 31, 3) := by decide +kernel
theorem d_X_join_5 : decode c_X_join 5 = .ok (.aload_n 0, 1) := by decide +kernel
theorem d_X_join_6 : decode c_X_join 6 = .ok (.iload_n 1, 1) := by decide +kernel
theorem d_X_join_7 : decode c_X_join 7 = .ok (.invokevirtual 41, 3) := by decide +kernel
theorem d_X_join_10 : decode c_X_join 10 = .ok (.istore_n 2, 1) := by decide +kernel
theorem d_X_join_11 : decode c_X_join 11 = .ok (.iload_n 2, 1) := by decide +kernel
theorem d_X_join_12 : decode c_X_join 12 = .ok (.aload_n 0, 1) := by decide +kernel
theorem d_X_join_13 : decode c_X_join 13 = .ok (.getfield 27, 3) := by decide +kernel
theorem d_X_join_16 : decode c_X_join 16 = .ok (.if_icmp .lt 5, 3) := by decide +kernel
theorem d_X_join_19 : decode c_X_join 19 = .ok (.iconst 0, 1) := by decide +kernel
theorem d_X_join_20 : decode c_X_join 20 = .ok (.ireturn, 1) := by decide +kernel
theorem d_X_join_21 : decode c_X_join 21 = .ok (.aload_n 0, 1) := by decide +kernel
theorem d_X_join_22 : decode c_X_join 22 = .ok (.iload_n 1, 1) := by decide +kernel
theorem d_X_join_23 : decode c_X_join 23 = .ok (.invokevirtual 34, 3) := by decide +kernel
theorem d_X_join_26 : decode c_X_join 26 = .ok (.istore_n 3, 1) := by decide +kernel
theorem d_X_join_27 : decode c_X_join 27 = .ok (.aload_n 0, 1) := by decide +kernel
theorem d_X_join_28 : decode c_X_join 28 = .ok (.iload_n 2, 1) := by decide +kernel
theorem d_X_join_29 : decode c_X_join 29 = .ok (.invokevirtual 41, 3) := by decide +kernel
theorem d_X_join_32 : decode c_X_join 32 = .ok (.istore 4, 2) := by decide +kernel
theorem d_X_join_34 : decode c_X_join 34 = .ok (.aload_n 0, 1) := by decide +kernel
theorem d_X_join_35 : decode c_X_join 35 = .ok (.iload_n 3, 1) := by decide +kernel
theorem d_X_join_36 : decode c_X_join 36 = .ok (.iload 4, 2) := by decide +kernel
theorem d_X_join_38 : decode c_X_join 38 = .ok (.invokevirtual 44, 3) := by decide +kernel
theorem d_X_join_41 : decode c_X_join 41 = .ok (.iload 4, 2) := by decide +kernel
theorem d_X_join_43 : decode c_X_join 43 = .ok (.iload_n 3, 1) := by decide +kernel
theorem d_X_join_44 : decode c_X_join 44 = .ok (.isub, 1) := by decide +kernel
theorem d_X_join_45 : decode c_X_join 45 = .ok (.ireturn, 1) := by decide +kernel
theorem d_X_make_0 : decode c_X_make 0 = .ok (.aload_n 0, 1) := by decide +kernel
theorem d_X_make_1 : decode c_X_make 1 = .ok (.iload_n 1, 1) := by decide +kernel
theorem d_X_make_2 : decode c_X_make 2 = .ok (.invokevirtual 31, 3) := by decide +kernel
theorem d_X_make_5 : decode c_X_make 5 = .ok (.iload_n 2, 1) := by decide +kernel
theorem d_X_make_6 : decode c_X_make 6 = .ok (.iload_n 1, 1) := by decide +kernel
theorem d_X_make_7 : decode c_X_make 7 = .ok (.if_icmp .le 11, 3) := by decide +kernel
theorem d_X_make_10 : decode c_X_make 10 = .ok (.iload_n 2, 1) := by decide +kernel
theorem d_X_make_11 : decode c_X_make 11 = .ok (.aload_n 0, 1) := by decide +kernel
theorem d_X_make_12 : decode c_X_make 12 = .ok (.getfield 27, 3) := by decide +kernel
theorem d_X_make_15 : decode c_X_make 15 = .ok (.if_icmp .le 13, 3) := by decide +kernel
theorem d_X_make_18 : decode c_X_make 18 = .ok (.new 48, 3) := by decide +kernel
theorem d_X_make_21 : decode c_X_make 21 = .ok (.dup, 1) := by decide +kernel
theorem d_X_make_22 : decode c_X_make 22 = .ok (.ldc 50, 2) := by decide +kernel
theorem d_X_make_24 : decode c_X_make 24 = .ok (.invokespecial 52, 3) := by decide +kernel
theorem d_X_make_27 : decode c_X_make 27 = .ok (.athrow, 1) := by decide +kernel
theorem d_X_make_28 : decode c_X_make 28 = .ok (.aload_n 0, 1) := by decide +kernel
theorem d_X_make_29 : decode c_X_make 29 = .ok (.iload_n 1, 1) := by decide +kernel
theorem d_X_make_30 : decode c_X_make 30 = .ok (.invokevirtual 38, 3) := by decide +kernel
theorem d_X_make_33 : decode c_X_make 33 = .ok (.iload_n 2, 1) := by decide +kernel
theorem d_X_make_34 : decode c_X_make 34 = .ok (.aload_n 0, 1) := by decide +kernel
theorem d_X_make_35 : decode c_X_make 35 = .ok (.getfield 27, 3) := by decide +kernel
theorem d_X_make_38 : decode c_X_make 38 = .ok (.if_icmp .ge 8, 3) := by decide +kernel
theorem d_X_make_41 : decode c_X_make 41 = .ok (.aload_n 0, 1) := by decide +kernel
theorem d_X_make_42 : decode c_X_make 42 = .ok (.iload_n 2, 1) := by decide +kernel
theorem d_X_make_43 : decode c_X_make 43 = .ok (.invokevirtual 38, 3) := by decide +kernel
theorem d_X_make_46 : decode c_X_make 46 = .ok (.aload_n 0, 1) := by decide +kernel
theorem d_X_make_47 : decode c_X_make 47 = .ok (.iload_n 1, 1) := by decide +kernel
theorem d_X_make_48 : decode c_X_make 48 = .ok (.iload_n 2, 1) := by decide +kernel
theorem d_X_make_49 : decode c_X_make 49 = .ok (.invokevirtual 44, 3) := by decide +kernel
theorem d_X_make_52 : decode c_X_make 52 = .ok (.aload_n 0, 1) := by decide +kernel
theorem d_X_make_53 : decode c_X_make 53 = .ok (.getfield 53, 3) := by decide +kernel
theorem d_X_make_56 : decode c_X_make 56 = .ok (.ireturn, 1) := by decide +kernel
theorem d_X_begin_0 : decode c_X_begin 0 = .ok (.aload_n 0, 1) := by decide +kernel
theorem d_X_begin_1 : decode c_X_begin 1 = .ok (.iload_n 1, 1) := by decide +kernel
theorem d_X_begin_2 : decode c_X_begin 2 = .ok (.invokevirtual 31, 3) := by decide +kernel
theorem d_X_begin_5 : decode c_X_begin 5 = .ok (.aload_n 0, 1) := by decide +kernel
theorem d_X_begin_6 : decode c_X_begin 6 = .ok (.iload_n 1, 1) := by decide +kernel
theorem d_X_begin_7 : decode c_X_begin 7 = .ok (.invokevirtual 34, 3) := by decide +kernel
theorem d_X_begin_10 : decode c_X_begin 10 = .ok (.ireturn, 1) := by decide +kernel
theorem d_X_size_0 : decode c_X_size 0 = .ok (.aload_n 0, 1) := by decide +kernel
theorem d_X_size_1 : decode c_X_size 1 = .ok (.iload_n 1, 1) := by decide +kernel
theorem d_X_size_2 : decode c_X_size 2 = .ok (.invokevirtual 31, 3) := by decide +kernel
theorem d_X_size_5 : decode c_X_size 5 = .ok (.aload_n 0, 1) := by decide +kernel
theorem d_X_size_6 : decode c_X_size 6 = .ok (.iload_n 1, 1) := by decide +kernel
theorem d_X_size_7 : decode c_X_size 7 = .ok (.invokevirtual 41, 3) := by decide +kernel
theorem d_X_size_10 : decode c_X_size 10 = .ok (.aload_n 0, 1) := by decide +kernel
theorem d_X_size_11 : decode c_X_size 11 = .ok (.iload_n 1, 1) := by decide +kernel
theorem d_X_size_12 : decode c_X_size 12 = .ok (.invokevirtual 34, 3) := by decide +kernel
theorem d_X_size_15 : decode c_X_size 15 = .ok (.isub, 1) := by decide +kernel
theorem d_X_size_16 : decode c_X_size 16 = .ok (.ireturn, 1) := by decide +kernel
theorem d_X_start_0 : decode c_X_start 0 = .ok (.aload_n 0, 1) := by decide +kernel
theorem d_X_start_1 : decode c_X_start 1 = .ok (.iload_n 1, 1) := by decide +kernel
theorem d_X_start_2 : decode c_X_start 2 = .ok (.invokevirtual 56, 3) := by decide +kernel
theorem d_X_start_5 : decode c_X_start 5 = .ok (.aload_n 0, 1) := by decide +kernel
theorem d_X_start_6 : decode c_X_start 6 = .ok (.getfield 13, 3) := by decide +kernel
theorem d_X_start_9 : decode c_X_start 9 = .ok (.iload_n 1, 1) := by decide +kernel
theorem d_X_start_10 : decode c_X_start 10 = .ok (.iaload, 1) := by decide +kernel
theorem d_X_start_11 : decode c_X_start 11 = .ok (.ireturn, 1) := by decide +kernel
theorem d_X_begins_0 : decode c_X_begins 0 = .ok (.aload_n 0, 1) := by decide +kernel
theorem d_X_begins_1 : decode c_X_begins 1 = .ok (.iload_n 1, 1) := by decide +kernel
theorem d_X_begins_2 : decode c_X_begins 2 = .ok (.invokevirtual 56, 3) := by decide +kernel
theorem d_X_begins_5 : decode c_X_begins 5 = .ok (.aload_n 0, 1) := by decide +kernel
theorem d_X_begins_6 : decode c_X_begins 6 = .ok (.getfield 9, 3) := by decide +kernel
theorem d_X_begins_9 : decode c_X_begins 9 = .ok (.iload_n 1, 1) := by decide +kernel
theorem d_X_begins_10 : decode c_X_begins 10 = .ok (.iaload, 1) := by decide +kernel
theorem d_X_begins_11 : decode c_X_begins 11 = .ok (.invokestatic 59, 3) := by decide +kernel
theorem d_X_begins_14 : decode c_X_begins 14 = .ok (.ireturn, 1) := by decide +kernel
theorem d_X_count_0 : decode c_X_count 0 = .ok (.iload_n 1, 1) := by decide +kernel
theorem d_X_count_1 : decode c_X_count 1 = .ok (.tableswitch 62 0 4 #[35, 40, 45, 50, 56], 35) := by decide +kernel
theorem d_X_count_36 : decode c_X_count 36 = .ok (.aload_n 0, 1) := by decide +kernel
theorem d_X_count_37 : decode c_X_count 37 = .ok (.getfield 27, 3) := by decide +kernel
theorem d_X_count_40 : decode c_X_count 40 = .ok (.ireturn, 1) := by decide +kernel
theorem d_X_count_41 : decode c_X_count 41 = .ok (.aload_n 0, 1) := by decide +kernel
theorem d_X_count_42 : decode c_X_count 42 = .ok (.invokevirtual 64, 3) := by decide +kernel
theorem d_X_count_45 : decode c_X_count 45 = .ok (.ireturn, 1) := by decide +kernel
theorem d_X_count_46 : decode c_X_count 46 = .ok (.aload_n 0, 1) := by decide +kernel
theorem d_X_count_47 : decode c_X_count 47 = .ok (.getfield 53, 3) := by decide +kernel
theorem d_X_count_50 : decode c_X_count 50 = .ok (.ireturn, 1) := by decide +kernel
theorem d_X_count_51 : decode c_X_count 51 = .ok (.aload_n 0, 1) := by decide +kernel
theorem d_X_count_52 : decode c_X_count 52 = .ok (.iconst 1, 1) := by decide +kernel
theorem d_X_count_53 : decode c_X_count 53 = .ok (.invokevirtual 68, 3) := by decide +kernel
theorem d_X_count_56 : decode c_X_count 56 = .ok (.ireturn, 1) := by decide +kernel
theorem d_X_count_57 : decode c_X_count 57 = .ok (.aload_n 0, 1) := by decide +kernel
theorem d_X_count_58 : decode c_X_count 58 = .ok (.iconst 0, 1) := by decide +kernel
theorem d_X_count_59 : decode c_X_count 59 = .ok (.invokevirtual 68, 3) := by decide +kernel
theorem d_X_count_62 : decode c_X_count 62 = .ok (.ireturn, 1) := by decide +kernel
theorem d_X_count_63 : decode c_X_count 63 = .ok (.new 20, 3) := by decide +kernel
theorem d_X_count_66 : decode c_X_count 66 = .ok (.dup, 1) := by decide +kernel
theorem d_X_count_67 : decode c_X_count 67 = .ok (.ldc 72, 2) := by decide +kernel
theorem d_X_count_69 : decode c_X_count 69 = .ok (.invokespecial 24, 3) := by decide +kernel
theorem d_X_count_72 : decode c_X_count 72 = .ok (.athrow, 1) := by decide +kernel
theorem d_X_checkCell_0 : decode c_X_checkCell 0 = .ok (.iload_n 1, 1) := by decide +kernel
theorem d_X_checkCell_1 : decode c_X_checkCell 1 = .ok (.ifCond .lt 11, 3) := by decide +kernel
theorem d_X_checkCell_4 : decode c_X_checkCell 4 = .ok (.iload_n 1, 1) := by decide +kernel
theorem d_X_checkCell_5 : decode c_X_checkCell 5 = .ok (.aload_n 0, 1) := by decide +kernel
theorem d_X_checkCell_6 : decode c_X_checkCell 6 = .ok (.getfield 27, 3) := by decide +kernel
theorem d_X_checkCell_9 : decode c_X_checkCell 9 = .ok (.if_icmp .lt 13, 3) := by decide +kernel
theorem d_X_checkCell_12 : decode c_X_checkCell 12 = .ok (.new 48, 3) := by decide +kernel
theorem d_X_checkCell_15 : decode c_X_checkCell 15 = .ok (.dup, 1) := by decide +kernel
theorem d_X_checkCell_16 : decode c_X_checkCell 16 = .ok (.ldc 74, 2) := by decide +kernel
theorem d_X_checkCell_18 : decode c_X_checkCell 18 = .ok (.invokespecial 52, 3) := by decide +kernel
theorem d_X_checkCell_21 : decode c_X_checkCell 21 = .ok (.athrow, 1) := by decide +kernel
theorem d_X_checkCell_22 : decode c_X_checkCell 22 = .ok (.return_, 1) := by decide +kernel
theorem d_X_checkCard_0 : decode c_X_checkCard 0 = .ok (.iload_n 1, 1) := by decide +kernel
theorem d_X_checkCard_1 : decode c_X_checkCard 1 = .ok (.ifCond .lt 11, 3) := by decide +kernel
theorem d_X_checkCard_4 : decode c_X_checkCard 4 = .ok (.iload_n 1, 1) := by decide +kernel
theorem d_X_checkCard_5 : decode c_X_checkCard 5 = .ok (.aload_n 0, 1) := by decide +kernel
theorem d_X_checkCard_6 : decode c_X_checkCard 6 = .ok (.invokevirtual 64, 3) := by decide +kernel
theorem d_X_checkCard_9 : decode c_X_checkCard 9 = .ok (.if_icmp .lt 13, 3) := by decide +kernel
theorem d_X_checkCard_12 : decode c_X_checkCard 12 = .ok (.new 48, 3) := by decide +kernel
theorem d_X_checkCard_15 : decode c_X_checkCard 15 = .ok (.dup, 1) := by decide +kernel
theorem d_X_checkCard_16 : decode c_X_checkCard 16 = .ok (.ldc 76, 2) := by decide +kernel
theorem d_X_checkCard_18 : decode c_X_checkCard 18 = .ok (.invokespecial 52, 3) := by decide +kernel
theorem d_X_checkCard_21 : decode c_X_checkCard 21 = .ok (.athrow, 1) := by decide +kernel
theorem d_X_checkCard_22 : decode c_X_checkCard 22 = .ok (.return_, 1) := by decide +kernel
theorem d_X_cardCount_0 : decode c_X_cardCount 0 = .ok (.aload_n 0, 1) := by decide +kernel
theorem d_X_cardCount_1 : decode c_X_cardCount 1 = .ok (.getfield 27, 3) := by decide +kernel
theorem d_X_cardCount_4 : decode c_X_cardCount 4 = .ok (.bipush 32, 2) := by decide +kernel
theorem d_X_cardCount_6 : decode c_X_cardCount 6 = .ok (.iadd, 1) := by decide +kernel
theorem d_X_cardCount_7 : decode c_X_cardCount 7 = .ok (.iconst 1, 1) := by decide +kernel
theorem d_X_cardCount_8 : decode c_X_cardCount 8 = .ok (.isub, 1) := by decide +kernel
theorem d_X_cardCount_9 : decode c_X_cardCount 9 = .ok (.bipush 32, 2) := by decide +kernel
theorem d_X_cardCount_11 : decode c_X_cardCount 11 = .ok (.idiv, 1) := by decide +kernel
theorem d_X_cardCount_12 : decode c_X_cardCount 12 = .ok (.ireturn, 1) := by decide +kernel
theorem d_X_layOnePiece_0 : decode c_X_layOnePiece 0 = .ok (.aload_n 0, 1) := by decide +kernel
theorem d_X_layOnePiece_1 : decode c_X_layOnePiece 1 = .ok (.getfield 9, 3) := by decide +kernel
theorem d_X_layOnePiece_4 : decode c_X_layOnePiece 4 = .ok (.iconst 0, 1) := by decide +kernel
theorem d_X_layOnePiece_5 : decode c_X_layOnePiece 5 = .ok (.invokestatic 78, 3) := by decide +kernel
theorem d_X_layOnePiece_8 : decode c_X_layOnePiece 8 = .ok (.aload_n 0, 1) := by decide +kernel
theorem d_X_layOnePiece_9 : decode c_X_layOnePiece 9 = .ok (.getfield 13, 3) := by decide +kernel
theorem d_X_layOnePiece_12 : decode c_X_layOnePiece 12 = .ok (.iconst 0, 1) := by decide +kernel
theorem d_X_layOnePiece_13 : decode c_X_layOnePiece 13 = .ok (.invokestatic 78, 3) := by decide +kernel
theorem d_X_layOnePiece_16 : decode c_X_layOnePiece 16 = .ok (.aload_n 0, 1) := by decide +kernel
theorem d_X_layOnePiece_17 : decode c_X_layOnePiece 17 = .ok (.getfield 9, 3) := by decide +kernel
theorem d_X_layOnePiece_20 : decode c_X_layOnePiece 20 = .ok (.iconst 0, 1) := by decide +kernel
theorem d_X_layOnePiece_21 : decode c_X_layOnePiece 21 = .ok (.iconst 1, 1) := by decide +kernel
theorem d_X_layOnePiece_22 : decode c_X_layOnePiece 22 = .ok (.iastore, 1) := by decide +kernel
theorem d_X_layOnePiece_23 : decode c_X_layOnePiece 23 = .ok (.aload_n 0, 1) := by decide +kernel
theorem d_X_layOnePiece_24 : decode c_X_layOnePiece 24 = .ok (.iload_n 1, 1) := by decide +kernel
theorem d_X_layOnePiece_25 : decode c_X_layOnePiece 25 = .ok (.putfield 27, 3) := by decide +kernel
theorem d_X_layOnePiece_28 : decode c_X_layOnePiece 28 = .ok (.aload_n 0, 1) := by decide +kernel
theorem d_X_layOnePiece_29 : decode c_X_layOnePiece 29 = .ok (.iconst 1, 1) := by decide +kernel
theorem d_X_layOnePiece_30 : decode c_X_layOnePiece 30 = .ok (.putfield 53, 3) := by decide +kernel
theorem d_X_layOnePiece_33 : decode c_X_layOnePiece 33 = .ok (.return_, 1) := by decide +kernel
theorem d_X_beginOf_0 : decode c_X_beginOf 0 = .ok (.iload_n 1, 1) := by decide +kernel
theorem d_X_beginOf_1 : decode c_X_beginOf 1 = .ok (.bipush 32, 2) := by decide +kernel
theorem d_X_beginOf_3 : decode c_X_beginOf 3 = .ok (.idiv, 1) := by decide +kernel
theorem d_X_beginOf_4 : decode c_X_beginOf 4 = .ok (.istore_n 2, 1) := by decide +kernel
theorem d_X_beginOf_5 : decode c_X_beginOf 5 = .ok (.iconst (-1), 1) := by decide +kernel
theorem d_X_beginOf_6 : decode c_X_beginOf 6 = .ok (.bipush 31, 2) := by decide +kernel
theorem d_X_beginOf_8 : decode c_X_beginOf 8 = .ok (.iload_n 1, 1) := by decide +kernel
theorem d_X_beginOf_9 : decode c_X_beginOf 9 = .ok (.bipush 32, 2) := by decide +kernel
theorem d_X_beginOf_11 : decode c_X_beginOf 11 = .ok (.irem, 1) := by decide +kernel
theorem d_X_beginOf_12 : decode c_X_beginOf 12 = .ok (.isub, 1) := by decide +kernel
theorem d_X_beginOf_13 : decode c_X_beginOf 13 = .ok (.iushr, 1) := by decide +kernel
theorem d_X_beginOf_14 : decode c_X_beginOf 14 = .ok (.istore_n 3, 1) := by decide +kernel
theorem d_X_beginOf_15 : decode c_X_beginOf 15 = .ok (.aload_n 0, 1) := by decide +kernel
theorem d_X_beginOf_16 : decode c_X_beginOf 16 = .ok (.getfield 9, 3) := by decide +kernel
theorem d_X_beginOf_19 : decode c_X_beginOf 19 = .ok (.iload_n 2, 1) := by decide +kernel
theorem d_X_beginOf_20 : decode c_X_beginOf 20 = .ok (.iaload, 1) := by decide +kernel
theorem d_X_beginOf_21 : decode c_X_beginOf 21 = .ok (.iload_n 3, 1) := by decide +kernel
theorem d_X_beginOf_22 : decode c_X_beginOf 22 = .ok (.iand, 1) := by decide +kernel
theorem d_X_beginOf_23 : decode c_X_beginOf 23 = .ok (.istore 4, 2) := by decide +kernel
theorem d_X_beginOf_25 : decode c_X_beginOf 25 = .ok (.iload 4, 2) := by decide +kernel
theorem d_X_beginOf_27 : decode c_X_beginOf 27 = .ok (.ifCond .ne 10, 3) := by decide +kernel
theorem d_X_beginOf_30 : decode c_X_beginOf 30 = .ok (.aload_n 0, 1) := by decide +kernel
theorem d_X_beginOf_31 : decode c_X_beginOf 31 = .ok (.getfield 13, 3) := by decide +kernel
theorem d_X_beginOf_34 : decode c_X_beginOf 34 = .ok (.iload_n 2, 1) := by decide +kernel
theorem d_X_beginOf_35 : decode c_X_beginOf 35 = .ok (.iaload, 1) := by decide +kernel
theorem d_X_beginOf_36 : decode c_X_beginOf 36 = .ok (.ireturn, 1) := by decide +kernel
theorem d_X_beginOf_37 : decode c_X_beginOf 37 = .ok (.iload_n 2, 1) := by decide +kernel
theorem d_X_beginOf_38 : decode c_X_beginOf 38 = .ok (.bipush 32, 2) := by decide +kernel
theorem d_X_beginOf_40 : decode c_X_beginOf 40 = .ok (.imul, 1) := by decide +kernel
theorem d_X_beginOf_41 : decode c_X_beginOf 41 = .ok (.bipush 32, 2) := by decide +kernel
theorem d_X_beginOf_43 : decode c_X_beginOf 43 = .ok (.iadd, 1) := by decide +kernel
theorem d_X_beginOf_44 : decode c_X_beginOf 44 = .ok (.iconst 1, 1) := by decide +kernel
theorem d_X_beginOf_45 : decode c_X_beginOf 45 = .ok (.isub, 1) := by decide +kernel
theorem d_X_beginOf_46 : decode c_X_beginOf 46 = .ok (.iload 4, 2) := by decide +kernel
theorem d_X_beginOf_48 : decode c_X_beginOf 48 = .ok (.invokestatic 84, 3) := by decide +kernel
theorem d_X_beginOf_51 : decode c_X_beginOf 51 = .ok (.isub, 1) := by decide +kernel
theorem d_X_beginOf_52 : decode c_X_beginOf 52 = .ok (.ireturn, 1) := by decide +kernel
theorem d_X_endOf_0 : decode c_X_endOf 0 = .ok (.aload_n 0, 1) := by decide +kernel
theorem d_X_endOf_1 : decode c_X_endOf 1 = .ok (.iload_n 1, 1) := by decide +kernel
theorem d_X_endOf_2 : decode c_X_endOf 2 = .ok (.iconst 1, 1) := by decide +kernel
theorem d_X_endOf_3 : decode c_X_endOf 3 = .ok (.iadd, 1) := by decide +kernel
theorem d_X_endOf_4 : decode c_X_endOf 4 = .ok (.invokevirtual 87, 3) := by decide +kernel
theorem d_X_endOf_7 : decode c_X_endOf 7 = .ok (.ireturn, 1) := by decide +kernel
theorem d_X_firstBeginFrom_0 : decode c_X_firstBeginFrom 0 = .ok (.iconst (-1), 1) := by decide +kernel
theorem d_X_firstBeginFrom_1 : decode c_X_firstBeginFrom 1 = .ok (.iload_n 1, 1) := by decide +kernel
theorem d_X_firstBeginFrom_2 : decode c_X_firstBeginFrom 2 = .ok (.bipush 32, 2) := by decide +kernel
theorem d_X_firstBeginFrom_4 : decode c_X_firstBeginFrom 4 = .ok (.irem, 1) := by decide +kernel
theorem d_X_firstBeginFrom_5 : decode c_X_firstBeginFrom 5 = .ok (.ishl, 1) := by decide +kernel
theorem d_X_firstBeginFrom_6 : decode c_X_firstBeginFrom 6 = .ok (.istore_n 2, 1) := by decide +kernel
theorem d_X_firstBeginFrom_7 : decode c_X_firstBeginFrom 7 = .ok (.aload_n 0, 1) := by decide +kernel
theorem d_X_firstBeginFrom_8 : decode c_X_firstBeginFrom 8 = .ok (.invokevirtual 64, 3) := by decide +kernel
theorem d_X_firstBeginFrom_11 : decode c_X_firstBeginFrom 11 = .ok (.istore_n 3, 1) := by decide +kernel
theorem d_X_firstBeginFrom_12 : decode c_X_firstBeginFrom 12 = .ok (.iload_n 1, 1) := by decide +kernel
theorem d_X_firstBeginFrom_13 : decode c_X_firstBeginFrom 13 = .ok (.bipush 32, 2) := by decide +kernel
theorem d_X_firstBeginFrom_15 : decode c_X_firstBeginFrom 15 = .ok (.idiv, 1) := by decide +kernel
theorem d_X_firstBeginFrom_16 : decode c_X_firstBeginFrom 16 = .ok (.istore 4, 2) := by decide +kernel
theorem d_X_firstBeginFrom_18 : decode c_X_firstBeginFrom 18 = .ok (.iload 4, 2) := by decide +kernel
theorem d_X_firstBeginFrom_20 : decode c_X_firstBeginFrom 20 = .ok (.iload_n 3, 1) := by decide +kernel
theorem d_X_firstBeginFrom_21 : decode c_X_firstBeginFrom 21 = .ok (.if_icmp .ge 39, 3) := by decide +kernel
theorem d_X_firstBeginFrom_24 : decode c_X_firstBeginFrom 24 = .ok (.aload_n 0, 1) := by decide +kernel
theorem d_X_firstBeginFrom_25 : decode c_X_firstBeginFrom 25 = .ok (.getfield 9, 3) := by decide +kernel
theorem d_X_firstBeginFrom_28 : decode c_X_firstBeginFrom 28 = .ok (.iload 4, 2) := by decide +kernel
theorem d_X_firstBeginFrom_30 : decode c_X_firstBeginFrom 30 = .ok (.iaload, 1) := by decide +kernel
theorem d_X_firstBeginFrom_31 : decode c_X_firstBeginFrom 31 = .ok (.iload_n 2, 1) := by decide +kernel
theorem d_X_firstBeginFrom_32 : decode c_X_firstBeginFrom 32 = .ok (.iand, 1) := by decide +kernel
theorem d_X_firstBeginFrom_33 : decode c_X_firstBeginFrom 33 = .ok (.istore 5, 2) := by decide +kernel
theorem d_X_firstBeginFrom_35 : decode c_X_firstBeginFrom 35 = .ok (.iload 5, 2) := by decide +kernel
theorem d_X_firstBeginFrom_37 : decode c_X_firstBeginFrom 37 = .ok (.ifCond .eq 15, 3) := by decide +kernel
theorem d_X_firstBeginFrom_40 : decode c_X_firstBeginFrom 40 = .ok (.iload 4, 2) := by decide +kernel
theorem d_X_firstBeginFrom_42 : decode c_X_firstBeginFrom 42 = .ok (.bipush 32, 2) := by decide +kernel
theorem d_X_firstBeginFrom_44 : decode c_X_firstBeginFrom 44 = .ok (.imul, 1) := by decide +kernel
theorem d_X_firstBeginFrom_45 : decode c_X_firstBeginFrom 45 = .ok (.iload 5, 2) := by decide +kernel
theorem d_X_firstBeginFrom_47 : decode c_X_firstBeginFrom 47 = .ok (.invokestatic 90, 3) := by decide +kernel
theorem d_X_firstBeginFrom_50 : decode c_X_firstBeginFrom 50 = .ok (.iadd, 1) := by decide +kernel
theorem d_X_firstBeginFrom_51 : decode c_X_firstBeginFrom 51 = .ok (.ireturn, 1) := by decide +kernel
theorem d_X_firstBeginFrom_52 : decode c_X_firstBeginFrom 52 = .ok (.iconst (-1), 1) := by decide +kernel
theorem d_X_firstBeginFrom_53 : decode c_X_firstBeginFrom 53 = .ok (.istore_n 2, 1) := by decide +kernel
theorem d_X_firstBeginFrom_54 : decode c_X_firstBeginFrom 54 = .ok (.iinc 4 1, 3) := by decide +kernel
theorem d_X_firstBeginFrom_57 : decode c_X_firstBeginFrom 57 = .ok (.goto (-39), 3) := by decide +kernel
theorem d_X_firstBeginFrom_60 : decode c_X_firstBeginFrom 60 = .ok (.aload_n 0, 1) := by decide +kernel
theorem d_X_firstBeginFrom_61 : decode c_X_firstBeginFrom 61 = .ok (.getfield 27, 3) := by decide +kernel
theorem d_X_firstBeginFrom_64 : decode c_X_firstBeginFrom 64 = .ok (.ireturn, 1) := by decide +kernel
theorem d_X_cutAt_0 : decode c_X_cutAt 0 = .ok (.aload_n 0, 1) := by decide +kernel
theorem d_X_cutAt_1 : decode c_X_cutAt 1 = .ok (.iload_n 1, 1) := by decide +kernel
theorem d_X_cutAt_2 : decode c_X_cutAt 2 = .ok (.invokevirtual 34, 3) := by decide +kernel
theorem d_X_cutAt_5 : decode c_X_cutAt 5 = .ok (.iload_n 1, 1) := by decide +kernel
theorem d_X_cutAt_6 : decode c_X_cutAt 6 = .ok (.if_icmp .ne 4, 3) := by decide +kernel
theorem d_X_cutAt_9 : decode c_X_cutAt 9 = .ok (.return_, 1) := by decide +kernel
theorem d_X_cutAt_10 : decode c_X_cutAt 10 = .ok (.aload_n 0, 1) := by decide +kernel
theorem d_X_cutAt_11 : decode c_X_cutAt 11 = .ok (.getfield 9, 3) := by decide +kernel
theorem d_X_cutAt_14 : decode c_X_cutAt 14 = .ok (.iload_n 1, 1) := by decide +kernel
theorem d_X_cutAt_15 : decode c_X_cutAt 15 = .ok (.bipush 32, 2) := by decide +kernel
theorem d_X_cutAt_17 : decode c_X_cutAt 17 = .ok (.idiv, 1) := by decide +kernel
theorem d_X_cutAt_18 : decode c_X_cutAt 18 = .ok (.dup2, 1) := by decide +kernel
theorem d_X_cutAt_19 : decode c_X_cutAt 19 = .ok (.iaload, 1) := by decide +kernel
theorem d_X_cutAt_20 : decode c_X_cutAt 20 = .ok (.iload_n 1, 1) := by decide +kernel
theorem d_X_cutAt_21 : decode c_X_cutAt 21 = .ok (.invokestatic 93, 3) := by decide +kernel
theorem d_X_cutAt_24 : decode c_X_cutAt 24 = .ok (.ior, 1) := by decide +kernel
theorem d_X_cutAt_25 : decode c_X_cutAt 25 = .ok (.iastore, 1) := by decide +kernel
theorem d_X_cutAt_26 : decode c_X_cutAt 26 = .ok (.aload_n 0, 1) := by decide +kernel
theorem d_X_cutAt_27 : decode c_X_cutAt 27 = .ok (.dup, 1) := by decide +kernel
theorem d_X_cutAt_28 : decode c_X_cutAt 28 = .ok (.getfield 53, 3) := by decide +kernel
theorem d_X_cutAt_31 : decode c_X_cutAt 31 = .ok (.iconst 1, 1) := by decide +kernel
theorem d_X_cutAt_32 : decode c_X_cutAt 32 = .ok (.iadd, 1) := by decide +kernel
theorem d_X_cutAt_33 : decode c_X_cutAt 33 = .ok (.putfield 53, 3) := by decide +kernel
theorem d_X_cutAt_36 : decode c_X_cutAt 36 = .ok (.aload_n 0, 1) := by decide +kernel
theorem d_X_cutAt_37 : decode c_X_cutAt 37 = .ok (.iload_n 1, 1) := by decide +kernel
theorem d_X_cutAt_38 : decode c_X_cutAt 38 = .ok (.aload_n 0, 1) := by decide +kernel
theorem d_X_cutAt_39 : decode c_X_cutAt 39 = .ok (.iload_n 1, 1) := by decide +kernel
theorem d_X_cutAt_40 : decode c_X_cutAt 40 = .ok (.invokevirtual 41, 3) := by decide +kernel
theorem d_X_cutAt_43 : decode c_X_cutAt 43 = .ok (.invokevirtual 96, 3) := by decide +kernel
theorem d_X_cutAt_46 : decode c_X_cutAt 46 = .ok (.return_, 1) := by decide +kernel
theorem d_X_merge_0 : decode c_X_merge 0 = .ok (.aload_n 0, 1) := by decide +kernel
theorem d_X_merge_1 : decode c_X_merge 1 = .ok (.getfield 53, 3) := by decide +kernel
theorem d_X_merge_4 : decode c_X_merge 4 = .ok (.istore_n 3, 1) := by decide +kernel
theorem d_X_merge_5 : decode c_X_merge 5 = .ok (.aload_n 0, 1) := by decide +kernel
theorem d_X_merge_6 : decode c_X_merge 6 = .ok (.iload_n 1, 1) := by decide +kernel
theorem d_X_merge_7 : decode c_X_merge 7 = .ok (.invokevirtual 41, 3) := by decide +kernel
theorem d_X_merge_10 : decode c_X_merge 10 = .ok (.istore 4, 2) := by decide +kernel
theorem d_X_merge_12 : decode c_X_merge 12 = .ok (.iconst 0, 1) := by decide +kernel
theorem d_X_merge_13 : decode c_X_merge 13 = .ok (.istore 5, 2) := by decide +kernel
theorem d_X_merge_15 : decode c_X_merge 15 = .ok (.iload 5, 2) := by decide +kernel
theorem d_X_merge_17 : decode c_X_merge 17 = .ok (.iload_n 3, 1) := by decide +kernel
theorem d_X_merge_18 : decode c_X_merge 18 = .ok (.if_icmp .ge 53, 3) := by decide +kernel
theorem d_X_merge_21 : decode c_X_merge 21 = .ok (.iload 4, 2) := by decide +kernel
theorem d_X_merge_23 : decode c_X_merge 23 = .ok (.iload_n 2, 1) := by decide +kernel
theorem d_X_merge_24 : decode c_X_merge 24 = .ok (.if_icmp .ge 47, 3) := by decide +kernel
theorem d_X_merge_27 : decode c_X_merge 27 = .ok (.aload_n 0, 1) := by decide +kernel
theorem d_X_merge_28 : decode c_X_merge 28 = .ok (.getfield 9, 3) := by decide +kernel
theorem d_X_merge_31 : decode c_X_merge 31 = .ok (.iload 4, 2) := by decide +kernel
theorem d_X_merge_33 : decode c_X_merge 33 = .ok (.bipush 32, 2) := by decide +kernel
theorem d_X_merge_35 : decode c_X_merge 35 = .ok (.idiv, 1) := by decide +kernel
theorem d_X_merge_36 : decode c_X_merge 36 = .ok (.dup2, 1) := by decide +kernel
theorem d_X_merge_37 : decode c_X_merge 37 = .ok (.iaload, 1) := by decide +kernel
theorem d_X_merge_38 : decode c_X_merge 38 = .ok (.iload 4, 2) := by decide +kernel
theorem d_X_merge_40 : decode c_X_merge 40 = .ok (.invokestatic 93, 3) := by decide +kernel
theorem d_X_merge_43 : decode c_X_merge 43 = .ok (.iconst (-1), 1) := by decide +kernel
theorem d_X_merge_44 : decode c_X_merge 44 = .ok (.ixor, 1) := by decide +kernel
theorem d_X_merge_45 : decode c_X_merge 45 = .ok (.iand, 1) := by decide +kernel
theorem d_X_merge_46 : decode c_X_merge 46 = .ok (.iastore, 1) := by decide +kernel
theorem d_X_merge_47 : decode c_X_merge 47 = .ok (.aload_n 0, 1) := by decide +kernel
theorem d_X_merge_48 : decode c_X_merge 48 = .ok (.dup, 1) := by decide +kernel
theorem d_X_merge_49 : decode c_X_merge 49 = .ok (.getfield 53, 3) := by decide +kernel
theorem d_X_merge_52 : decode c_X_merge 52 = .ok (.iconst 1, 1) := by decide +kernel
theorem d_X_merge_53 : decode c_X_merge 53 = .ok (.isub, 1) := by decide +kernel
theorem d_X_merge_54 : decode c_X_merge 54 = .ok (.putfield 53, 3) := by decide +kernel
theorem d_X_merge_57 : decode c_X_merge 57 = .ok (.aload_n 0, 1) := by decide +kernel
theorem d_X_merge_58 : decode c_X_merge 58 = .ok (.iload 4, 2) := by decide +kernel
theorem d_X_merge_60 : decode c_X_merge 60 = .ok (.invokevirtual 41, 3) := by decide +kernel
theorem d_X_merge_63 : decode c_X_merge 63 = .ok (.istore 4, 2) := by decide +kernel
theorem d_X_merge_65 : decode c_X_merge 65 = .ok (.iinc 5 1, 3) := by decide +kernel
theorem d_X_merge_68 : decode c_X_merge 68 = .ok (.goto (-53), 3) := by decide +kernel
theorem d_X_merge_71 : decode c_X_merge 71 = .ok (.aload_n 0, 1) := by decide +kernel
theorem d_X_merge_72 : decode c_X_merge 72 = .ok (.iload_n 1, 1) := by decide +kernel
theorem d_X_merge_73 : decode c_X_merge 73 = .ok (.iload_n 2, 1) := by decide +kernel
theorem d_X_merge_74 : decode c_X_merge 74 = .ok (.invokevirtual 96, 3) := by decide +kernel
theorem d_X_merge_77 : decode c_X_merge 77 = .ok (.return_, 1) := by decide +kernel
theorem d_X_bitOf_0 : decode c_X_bitOf 0 = .ok (.iconst 1, 1) := by decide +kernel
theorem d_X_bitOf_1 : decode c_X_bitOf 1 = .ok (.iload_n 0, 1) := by decide +kernel
theorem d_X_bitOf_2 : decode c_X_bitOf 2 = .ok (.bipush 32, 2) := by decide +kernel
theorem d_X_bitOf_4 : decode c_X_bitOf 4 = .ok (.irem, 1) := by decide +kernel
theorem d_X_bitOf_5 : decode c_X_bitOf 5 = .ok (.ishl, 1) := by decide +kernel
theorem d_X_bitOf_6 : decode c_X_bitOf 6 = .ok (.ireturn, 1) := by decide +kernel
theorem d_X_tellStarts_0 : decode c_X_tellStarts 0 = .ok (.iload_n 1, 1) := by decide +kernel
theorem d_X_tellStarts_1 : decode c_X_tellStarts 1 = .ok (.bipush 32, 2) := by decide +kernel
theorem d_X_tellStarts_3 : decode c_X_tellStarts 3 = .ok (.iadd, 1) := by decide +kernel
theorem d_X_tellStarts_4 : decode c_X_tellStarts 4 = .ok (.iconst 1, 1) := by decide +kernel
theorem d_X_tellStarts_5 : decode c_X_tellStarts 5 = .ok (.isub, 1) := by decide +kernel
theorem d_X_tellStarts_6 : decode c_X_tellStarts 6 = .ok (.bipush 32, 2) := by decide +kernel
theorem d_X_tellStarts_8 : decode c_X_tellStarts 8 = .ok (.idiv, 1) := by decide +kernel
theorem d_X_tellStarts_9 : decode c_X_tellStarts 9 = .ok (.istore_n 3, 1) := by decide +kernel
theorem d_X_tellStarts_10 : decode c_X_tellStarts 10 = .ok (.iload_n 2, 1) := by decide +kernel
theorem d_X_tellStarts_11 : decode c_X_tellStarts 11 = .ok (.bipush 32, 2) := by decide +kernel
theorem d_X_tellStarts_13 : decode c_X_tellStarts 13 = .ok (.iadd, 1) := by decide +kernel
theorem d_X_tellStarts_14 : decode c_X_tellStarts 14 = .ok (.iconst 1, 1) := by decide +kernel
theorem d_X_tellStarts_15 : decode c_X_tellStarts 15 = .ok (.isub, 1) := by decide +kernel
theorem d_X_tellStarts_16 : decode c_X_tellStarts 16 = .ok (.bipush 32, 2) := by decide +kernel
theorem d_X_tellStarts_18 : decode c_X_tellStarts 18 = .ok (.idiv, 1) := by decide +kernel
theorem d_X_tellStarts_19 : decode c_X_tellStarts 19 = .ok (.istore 4, 2) := by decide +kernel
theorem d_X_tellStarts_21 : decode c_X_tellStarts 21 = .ok (.iload_n 3, 1) := by decide +kernel
theorem d_X_tellStarts_22 : decode c_X_tellStarts 22 = .ok (.istore 5, 2) := by decide +kernel
theorem d_X_tellStarts_24 : decode c_X_tellStarts 24 = .ok (.iload 5, 2) := by decide +kernel
theorem d_X_tellStarts_26 : decode c_X_tellStarts 26 = .ok (.iload 4, 2) := by decide +kernel
theorem d_X_tellStarts_28 : decode c_X_tellStarts 28 = .ok (.if_icmp .ge 17, 3) := by decide +kernel
theorem d_X_tellStarts_31 : decode c_X_tellStarts 31 = .ok (.aload_n 0, 1) := by decide +kernel
theorem d_X_tellStarts_32 : decode c_X_tellStarts 32 = .ok (.getfield 13, 3) := by decide +kernel
theorem d_X_tellStarts_35 : decode c_X_tellStarts 35 = .ok (.iload 5, 2) := by decide +kernel
theorem d_X_tellStarts_37 : decode c_X_tellStarts 37 = .ok (.iload_n 1, 1) := by decide +kernel
theorem d_X_tellStarts_38 : decode c_X_tellStarts 38 = .ok (.iastore, 1) := by decide +kernel
theorem d_X_tellStarts_39 : decode c_X_tellStarts 39 = .ok (.iinc 5 1, 3) := by decide +kernel
theorem d_X_tellStarts_42 : decode c_X_tellStarts 42 = .ok (.goto (-18), 3) := by decide +kernel
theorem d_X_tellStarts_45 : decode c_X_tellStarts 45 = .ok (.return_, 1) := by decide +kernel
theorem d_X_outermostSize_0 : decode c_X_outermostSize 0 = .ok (.aload_n 0, 1) := by decide +kernel
theorem d_X_outermostSize_1 : decode c_X_outermostSize 1 = .ok (.iconst 0, 1) := by decide +kernel
theorem d_X_outermostSize_2 : decode c_X_outermostSize 2 = .ok (.invokevirtual 41, 3) := by decide +kernel
theorem d_X_outermostSize_5 : decode c_X_outermostSize 5 = .ok (.istore_n 2, 1) := by decide +kernel
theorem d_X_outermostSize_6 : decode c_X_outermostSize 6 = .ok (.iload_n 2, 1) := by decide +kernel
theorem d_X_outermostSize_7 : decode c_X_outermostSize 7 = .ok (.istore_n 3, 1) := by decide +kernel
theorem d_X_outermostSize_8 : decode c_X_outermostSize 8 = .ok (.iconst 1, 1) := by decide +kernel
theorem d_X_outermostSize_9 : decode c_X_outermostSize 9 = .ok (.istore 4, 2) := by decide +kernel
theorem d_X_outermostSize_11 : decode c_X_outermostSize 11 = .ok (.iload 4, 2) := by decide +kernel
theorem d_X_outermostSize_13 : decode c_X_outermostSize 13 = .ok (.aload_n 0, 1) := by decide +kernel
theorem d_X_outermostSize_14 : decode c_X_outermostSize 14 = .ok (.getfield 53, 3) := by decide +kernel
theorem d_X_outermostSize_17 : decode c_X_outermostSize 17 = .ok (.if_icmp .ge 45, 3) := by decide +kernel
theorem d_X_outermostSize_20 : decode c_X_outermostSize 20 = .ok (.aload_n 0, 1) := by decide +kernel
theorem d_X_outermostSize_21 : decode c_X_outermostSize 21 = .ok (.iload_n 3, 1) := by decide +kernel
theorem d_X_outermostSize_22 : decode c_X_outermostSize 22 = .ok (.invokevirtual 41, 3) := by decide +kernel
theorem d_X_outermostSize_25 : decode c_X_outermostSize 25 = .ok (.istore 5, 2) := by decide +kernel
theorem d_X_outermostSize_27 : decode c_X_outermostSize 27 = .ok (.iload 5, 2) := by decide +kernel
theorem d_X_outermostSize_29 : decode c_X_outermostSize 29 = .ok (.iload_n 3, 1) := by decide +kernel
theorem d_X_outermostSize_30 : decode c_X_outermostSize 30 = .ok (.isub, 1) := by decide +kernel
theorem d_X_outermostSize_31 : decode c_X_outermostSize 31 = .ok (.istore 6, 2) := by decide +kernel
theorem d_X_outermostSize_33 : decode c_X_outermostSize 33 = .ok (.iload_n 1, 1) := by decide +kernel
theorem d_X_outermostSize_34 : decode c_X_outermostSize 34 = .ok (.ifCond .eq 12, 3) := by decide +kernel
theorem d_X_outermostSize_37 : decode c_X_outermostSize 37 = .ok (.iload_n 2, 1) := by decide +kernel
theorem d_X_outermostSize_38 : decode c_X_outermostSize 38 = .ok (.iload 6, 2) := by decide +kernel
theorem d_X_outermostSize_40 : decode c_X_outermostSize 40 = .ok (.invokestatic 99, 3) := by decide +kernel
theorem d_X_outermostSize_43 : decode c_X_outermostSize 43 = .ok (.goto 9, 3) := by decide +kernel
theorem d_X_outermostSize_46 : decode c_X_outermostSize 46 = .ok (.iload_n 2, 1) := by decide +kernel
theorem d_X_outermostSize_47 : decode c_X_outermostSize 47 = .ok (.iload 6, 2) := by decide +kernel
theorem d_X_outermostSize_49 : decode c_X_outermostSize 49 = .ok (.invokestatic 105, 3) := by decide +kernel
theorem d_X_outermostSize_52 : decode c_X_outermostSize 52 = .ok (.istore_n 2, 1) := by decide +kernel
theorem d_X_outermostSize_53 : decode c_X_outermostSize 53 = .ok (.iload 5, 2) := by decide +kernel
theorem d_X_outermostSize_55 : decode c_X_outermostSize 55 = .ok (.istore_n 3, 1) := by decide +kernel
theorem d_X_outermostSize_56 : decode c_X_outermostSize 56 = .ok (.iinc 4 1, 3) := by decide +kernel
theorem d_X_outermostSize_59 : decode c_X_outermostSize 59 = .ok (.goto (-48), 3) := by decide +kernel
theorem d_X_outermostSize_62 : decode c_X_outermostSize 62 = .ok (.iload_n 2, 1) := by decide +kernel
theorem d_X_outermostSize_63 : decode c_X_outermostSize 63 = .ok (.ireturn, 1) := by decide +kernel
theorem d_M_init_0 : decode c_M_init 0 = .ok (.aload_n 0, 1) := by decide +kernel
theorem d_M_init_1 : decode c_M_init 1 = .ok (.invokespecial 1, 3) := by decide +kernel
theorem d_M_init_4 : decode c_M_init 4 = .ok (.aload_n 0, 1) := by decide +kernel
theorem d_M_init_5 : decode c_M_init 5 = .ok (.sipush 1024, 3) := by decide +kernel
theorem d_M_init_8 : decode c_M_init 8 = .ok (.putfield 7, 3) := by decide +kernel
theorem d_M_init_11 : decode c_M_init 11 = .ok (.aload_n 0, 1) := by decide +kernel
theorem d_M_init_12 : decode c_M_init 12 = .ok (.sipush 16385, 3) := by decide +kernel
theorem d_M_init_15 : decode c_M_init 15 = .ok (.newarray .boolean, 2) := by decide +kernel
theorem d_M_init_17 : decode c_M_init 17 = .ok (.putfield 13, 3) := by decide +kernel
theorem d_M_init_20 : decode c_M_init 20 = .ok (.aload_n 0, 1) := by decide +kernel
theorem d_M_init_21 : decode c_M_init 21 = .ok (.getfield 13, 3) := by decide +kernel
theorem d_M_init_24 : decode c_M_init 24 = .ok (.iconst 0, 1) := by decide +kernel
theorem d_M_init_25 : decode c_M_init 25 = .ok (.iconst 1, 1) := by decide +kernel
theorem d_M_init_26 : decode c_M_init 26 = .ok (.bastore, 1) := by decide +kernel
theorem d_M_init_27 : decode c_M_init 27 = .ok (.aload_n 0, 1) := by decide +kernel
theorem d_M_init_28 : decode c_M_init 28 = .ok (.getfield 13, 3) := by decide +kernel
theorem d_M_init_31 : decode c_M_init 31 = .ok (.sipush 1024, 3) := by decide +kernel
theorem d_M_init_34 : decode c_M_init 34 = .ok (.iconst 1, 1) := by decide +kernel
theorem d_M_init_35 : decode c_M_init 35 = .ok (.bastore, 1) := by decide +kernel
theorem d_M_init_36 : decode c_M_init 36 = .ok (.return_, 1) := by decide +kernel
theorem d_M_thrown_0 : decode c_M_thrown 0 = .ok (.aload_n 0, 1) := by decide +kernel
theorem d_M_thrown_1 : decode c_M_thrown 1 = .ok (.getfield 17, 3) := by decide +kernel
theorem d_M_thrown_4 : decode c_M_thrown 4 = .ok (.ireturn, 1) := by decide +kernel
theorem d_M_goes_0 : decode c_M_goes 0 = .ok (.aload_n 0, 1) := by decide +kernel
theorem d_M_goes_1 : decode c_M_goes 1 = .ok (.iload_n 1, 1) := by decide +kernel
theorem d_M_goes_2 : decode c_M_goes 2 = .ok (.ifCond .eq 7, 3) := by decide +kernel
theorem d_M_goes_5 : decode c_M_goes 5 = .ok (.iconst 0, 1) := by decide +kernel
theorem d_M_goes_6 : decode c_M_goes 6 = .ok (.goto 4, 3) := by decide +kernel
theorem d_M_goes_9 : decode c_M_goes 9 = .ok (.iconst 1, 1) := by decide +kernel
theorem d_M_goes_10 : decode c_M_goes 10 = .ok (.putfield 17, 3) := by decide +kernel
theorem d_M_goes_13 : decode c_M_goes 13 = .ok (.iload_n 1, 1) := by decide +kernel
theorem d_M_goes_14 : decode c_M_goes 14 = .ok (.ireturn, 1) := by decide +kernel
theorem d_M_cards_0 : decode c_M_cards 0 = .ok (.aload_n 0, 1) := by decide +kernel
theorem d_M_cards_1 : decode c_M_cards 1 = .ok (.getfield 7, 3) := by decide +kernel
theorem d_M_cards_4 : decode c_M_cards 4 = .ok (.bipush 31, 2) := by decide +kernel
theorem d_M_cards_6 : decode c_M_cards 6 = .ok (.iadd, 1) := by decide +kernel
theorem d_M_cards_7 : decode c_M_cards 7 = .ok (.bipush 32, 2) := by decide +kernel
theorem d_M_cards_9 : decode c_M_cards 9 = .ok (.idiv, 1) := by decide +kernel
theorem d_M_cards_10 : decode c_M_cards 10 = .ok (.ireturn, 1) := by decide +kernel
theorem d_M_isCell_0 : decode c_M_isCell 0 = .ok (.iload_n 1, 1) := by decide +kernel
theorem d_M_isCell_1 : decode c_M_isCell 1 = .ok (.ifCond .lt 15, 3) := by decide +kernel
theorem d_M_isCell_4 : decode c_M_isCell 4 = .ok (.iload_n 1, 1) := by decide +kernel
theorem d_M_isCell_5 : decode c_M_isCell 5 = .ok (.aload_n 0, 1) := by decide +kernel
theorem d_M_isCell_6 : decode c_M_isCell 6 = .ok (.getfield 7, 3) := by decide +kernel
theorem d_M_isCell_9 : decode c_M_isCell 9 = .ok (.if_icmp .ge 7, 3) := by decide +kernel
theorem d_M_isCell_12 : decode c_M_isCell 12 = .ok (.iconst 1, 1) := by decide +kernel
theorem d_M_isCell_13 : decode c_M_isCell 13 = .ok (.goto 4, 3) := by decide +kernel
theorem d_M_isCell_16 : decode c_M_isCell 16 = .ok (.iconst 0, 1) := by decide +kernel
theorem d_M_isCell_17 : decode c_M_isCell 17 = .ok (.ireturn, 1) := by decide +kernel
theorem d_M_isCard_0 : decode c_M_isCard 0 = .ok (.iload_n 1, 1) := by decide +kernel
theorem d_M_isCard_1 : decode c_M_isCard 1 = .ok (.ifCond .lt 15, 3) := by decide +kernel
theorem d_M_isCard_4 : decode c_M_isCard 4 = .ok (.iload_n 1, 1) := by decide +kernel
theorem d_M_isCard_5 : decode c_M_isCard 5 = .ok (.aload_n 0, 1) := by decide +kernel
theorem d_M_isCard_6 : decode c_M_isCard 6 = .ok (.invokevirtual 20, 3) := by decide +kernel
theorem d_M_isCard_9 : decode c_M_isCard 9 = .ok (.if_icmp .ge 7, 3) := by decide +kernel
theorem d_M_isCard_12 : decode c_M_isCard 12 = .ok (.iconst 1, 1) := by decide +kernel
theorem d_M_isCard_13 : decode c_M_isCard 13 = .ok (.goto 4, 3) := by decide +kernel
theorem d_M_isCard_16 : decode c_M_isCard 16 = .ok (.iconst 0, 1) := by decide +kernel
theorem d_M_isCard_17 : decode c_M_isCard 17 = .ok (.ireturn, 1) := by decide +kernel
theorem d_M_space_0 : decode c_M_space 0 = .ok (.aload_n 0, 1) := by decide +kernel
theorem d_M_space_1 : decode c_M_space 1 = .ok (.iload_n 1, 1) := by decide +kernel
theorem d_M_space_2 : decode c_M_space 2 = .ok (.iconst 1, 1) := by decide +kernel
theorem d_M_space_3 : decode c_M_space 3 = .ok (.if_icmp .lt 14, 3) := by decide +kernel
theorem d_M_space_6 : decode c_M_space 6 = .ok (.iload_n 1, 1) := by decide +kernel
theorem d_M_space_7 : decode c_M_space 7 = .ok (.sipush 16384, 3) := by decide +kernel
theorem d_M_space_10 : decode c_M_space 10 = .ok (.if_icmp .gt 7, 3) := by decide +kernel
theorem d_M_space_13 : decode c_M_space 13 = .ok (.iconst 1, 1) := by decide +kernel
theorem d_M_space_14 : decode c_M_space 14 = .ok (.goto 4, 3) := by decide +kernel
theorem d_M_space_17 : decode c_M_space 17 = .ok (.iconst 0, 1) := by decide +kernel
theorem d_M_space_18 : decode c_M_space 18 = .ok (.invokevirtual 24, 3) := by decide +kernel
theorem d_M_space_21 : decode c_M_space 21 = .ok (.ifCond .ne 5, 3) := by decide +kernel
theorem d_M_space_24 : decode c_M_space 24 = .ok (.iconst 0, 1) := by decide +kernel
theorem d_M_space_25 : decode c_M_space 25 = .ok (.ireturn, 1) := by decide +kernel
theorem d_M_space_26 : decode c_M_space 26 = .ok (.aload_n 0, 1) := by decide +kernel
theorem d_M_space_27 : decode c_M_space 27 = .ok (.getfield 7, 3) := by decide +kernel
theorem d_M_space_30 : decode c_M_space 30 = .ok (.istore_n 2, 1) := by decide +kernel
theorem d_M_space_31 : decode c_M_space 31 = .ok (.iconst 0, 1) := by decide +kernel
theorem d_M_space_32 : decode c_M_space 32 = .ok (.istore_n 3, 1) := by decide +kernel
theorem d_M_space_33 : decode c_M_space 33 = .ok (.iload_n 3, 1) := by decide +kernel
theorem d_M_space_34 : decode c_M_space 34 = .ok (.sipush 16384, 3) := by decide +kernel
theorem d_M_space_37 : decode c_M_space 37 = .ok (.if_icmp .gt 29, 3) := by decide +kernel
theorem d_M_space_40 : decode c_M_space 40 = .ok (.aload_n 0, 1) := by decide +kernel
theorem d_M_space_41 : decode c_M_space 41 = .ok (.getfield 13, 3) := by decide +kernel
theorem d_M_space_44 : decode c_M_space 44 = .ok (.iload_n 3, 1) := by decide +kernel
theorem d_M_space_45 : decode c_M_space 45 = .ok (.iload_n 3, 1) := by decide +kernel
theorem d_M_space_46 : decode c_M_space 46 = .ok (.ifCond .eq 8, 3) := by decide +kernel
theorem d_M_space_49 : decode c_M_space 49 = .ok (.iload_n 3, 1) := by decide +kernel
theorem d_M_space_50 : decode c_M_space 50 = .ok (.iload_n 1, 1) := by decide +kernel
theorem d_M_space_51 : decode c_M_space 51 = .ok (.if_icmp .ne 7, 3) := by decide +kernel
theorem d_M_space_54 : decode c_M_space 54 = .ok (.iconst 1, 1) := by decide +kernel
theorem d_M_space_55 : decode c_M_space 55 = .ok (.goto 4, 3) := by decide +kernel
theorem d_M_space_58 : decode c_M_space 58 = .ok (.iconst 0, 1) := by decide +kernel
theorem d_M_space_59 : decode c_M_space 59 = .ok (.bastore, 1) := by decide +kernel
theorem d_M_space_60 : decode c_M_space 60 = .ok (.iinc 3 1, 3) := by decide +kernel
theorem d_M_space_63 : decode c_M_space 63 = .ok (.goto (-30), 3) := by decide +kernel
theorem d_M_space_66 : decode c_M_space 66 = .ok (.aload_n 0, 1) := by decide +kernel
theorem d_M_space_67 : decode c_M_space 67 = .ok (.iload_n 1, 1) := by decide +kernel
theorem d_M_space_68 : decode c_M_space 68 = .ok (.putfield 7, 3) := by decide +kernel
theorem d_M_space_71 : decode c_M_space 71 = .ok (.iload_n 2, 1) := by decide +kernel
theorem d_M_space_72 : decode c_M_space 72 = .ok (.ireturn, 1) := by decide +kernel
theorem d_M_from_0 : decode c_M_from 0 = .ok (.iload_n 1, 1) := by decide +kernel
theorem d_M_from_1 : decode c_M_from 1 = .ok (.istore_n 2, 1) := by decide +kernel
theorem d_M_from_2 : decode c_M_from 2 = .ok (.aload_n 0, 1) := by decide +kernel
theorem d_M_from_3 : decode c_M_from 3 = .ok (.getfield 13, 3) := by decide +kernel
theorem d_M_from_6 : decode c_M_from 6 = .ok (.iload_n 2, 1) := by decide +kernel
theorem d_M_from_7 : decode c_M_from 7 = .ok (.baload, 1) := by decide +kernel
theorem d_M_from_8 : decode c_M_from 8 = .ok (.ifCond .ne 9, 3) := by decide +kernel
theorem d_M_from_11 : decode c_M_from 11 = .ok (.iinc 2 (-1), 3) := by decide +kernel
theorem d_M_from_14 : decode c_M_from 14 = .ok (.goto (-12), 3) := by decide +kernel
theorem d_M_from_17 : decode c_M_from 17 = .ok (.iload_n 2, 1) := by decide +kernel
theorem d_M_from_18 : decode c_M_from 18 = .ok (.ireturn, 1) := by decide +kernel
theorem d_M_behind_0 : decode c_M_behind 0 = .ok (.iload_n 1, 1) := by decide +kernel
theorem d_M_behind_1 : decode c_M_behind 1 = .ok (.iconst 1, 1) := by decide +kernel
theorem d_M_behind_2 : decode c_M_behind 2 = .ok (.iadd, 1) := by decide +kernel
theorem d_M_behind_3 : decode c_M_behind 3 = .ok (.istore_n 2, 1) := by decide +kernel
theorem d_M_behind_4 : decode c_M_behind 4 = .ok (.aload_n 0, 1) := by decide +kernel
theorem d_M_behind_5 : decode c_M_behind 5 = .ok (.getfield 13, 3) := by decide +kernel
theorem d_M_behind_8 : decode c_M_behind 8 = .ok (.iload_n 2, 1) := by decide +kernel
theorem d_M_behind_9 : decode c_M_behind 9 = .ok (.baload, 1) := by decide +kernel
theorem d_M_behind_10 : decode c_M_behind 10 = .ok (.ifCond .ne 9, 3) := by decide +kernel
theorem d_M_behind_13 : decode c_M_behind 13 = .ok (.iinc 2 1, 3) := by decide +kernel
theorem d_M_behind_16 : decode c_M_behind 16 = .ok (.goto (-12), 3) := by decide +kernel
theorem d_M_behind_19 : decode c_M_behind 19 = .ok (.iload_n 2, 1) := by decide +kernel
theorem d_M_behind_20 : decode c_M_behind 20 = .ok (.ireturn, 1) := by decide +kernel
theorem d_M_pieces_0 : decode c_M_pieces 0 = .ok (.iconst 0, 1) := by decide +kernel
theorem d_M_pieces_1 : decode c_M_pieces 1 = .ok (.istore_n 1, 1) := by decide +kernel
theorem d_M_pieces_2 : decode c_M_pieces 2 = .ok (.iconst 0, 1) := by decide +kernel
theorem d_M_pieces_3 : decode c_M_pieces 3 = .ok (.istore_n 2, 1) := by decide +kernel
theorem d_M_pieces_4 : decode c_M_pieces 4 = .ok (.iload_n 2, 1) := by decide +kernel
theorem d_M_pieces_5 : decode c_M_pieces 5 = .ok (.aload_n 0, 1) := by decide +kernel
theorem d_M_pieces_6 : decode c_M_pieces 6 = .ok (.getfield 7, 3) := by decide +kernel
theorem d_M_pieces_9 : decode c_M_pieces 9 = .ok (.if_icmp .ge 26, 3) := by decide +kernel
theorem d_M_pieces_12 : decode c_M_pieces 12 = .ok (.aload_n 0, 1) := by decide +kernel
theorem d_M_pieces_13 : decode c_M_pieces 13 = .ok (.getfield 13, 3) := by decide +kernel
theorem d_M_pieces_16 : decode c_M_pieces 16 = .ok (.iload_n 2, 1) := by decide +kernel
theorem d_M_pieces_17 : decode c_M_pieces 17 = .ok (.baload, 1) := by decide +kernel
theorem d_M_pieces_18 : decode c_M_pieces 18 = .ok (.ifCond .eq 9, 3) := by decide +kernel
theorem d_M_pieces_21 : decode c_M_pieces 21 = .ok (.iload_n 1, 1) := by decide +kernel
theorem d_M_pieces_22 : decode c_M_pieces 22 = .ok (.iconst 1, 1) := by decide +kernel
theorem d_M_pieces_23 : decode c_M_pieces 23 = .ok (.iadd, 1) := by decide +kernel
theorem d_M_pieces_24 : decode c_M_pieces 24 = .ok (.goto 4, 3) := by decide +kernel
theorem d_M_pieces_27 : decode c_M_pieces 27 = .ok (.iload_n 1, 1) := by decide +kernel
theorem d_M_pieces_28 : decode c_M_pieces 28 = .ok (.istore_n 1, 1) := by decide +kernel
theorem d_M_pieces_29 : decode c_M_pieces 29 = .ok (.iinc 2 1, 3) := by decide +kernel
theorem d_M_pieces_32 : decode c_M_pieces 32 = .ok (.goto (-28), 3) := by decide +kernel
theorem d_M_pieces_35 : decode c_M_pieces 35 = .ok (.iload_n 1, 1) := by decide +kernel
theorem d_M_pieces_36 : decode c_M_pieces 36 = .ok (.ireturn, 1) := by decide +kernel
theorem d_M_cut_0 : decode c_M_cut 0 = .ok (.aload_n 0, 1) := by decide +kernel
theorem d_M_cut_1 : decode c_M_cut 1 = .ok (.aload_n 0, 1) := by decide +kernel
theorem d_M_cut_2 : decode c_M_cut 2 = .ok (.iload_n 1, 1) := by decide +kernel
theorem d_M_cut_3 : decode c_M_cut 3 = .ok (.invokevirtual 28, 3) := by decide +kernel
theorem d_M_cut_6 : decode c_M_cut 6 = .ok (.invokevirtual 24, 3) := by decide +kernel
theorem d_M_cut_9 : decode c_M_cut 9 = .ok (.ifCond .ne 5, 3) := by decide +kernel
theorem d_M_cut_12 : decode c_M_cut 12 = .ok (.iconst 0, 1) := by decide +kernel
theorem d_M_cut_13 : decode c_M_cut 13 = .ok (.ireturn, 1) := by decide +kernel
theorem d_M_cut_14 : decode c_M_cut 14 = .ok (.iload_n 1, 1) := by decide +kernel
theorem d_M_cut_15 : decode c_M_cut 15 = .ok (.aload_n 0, 1) := by decide +kernel
theorem d_M_cut_16 : decode c_M_cut 16 = .ok (.iload_n 1, 1) := by decide +kernel
theorem d_M_cut_17 : decode c_M_cut 17 = .ok (.invokevirtual 32, 3) := by decide +kernel
theorem d_M_cut_20 : decode c_M_cut 20 = .ok (.isub, 1) := by decide +kernel
theorem d_M_cut_21 : decode c_M_cut 21 = .ok (.istore_n 2, 1) := by decide +kernel
theorem d_M_cut_22 : decode c_M_cut 22 = .ok (.aload_n 0, 1) := by decide +kernel
theorem d_M_cut_23 : decode c_M_cut 23 = .ok (.getfield 13, 3) := by decide +kernel
theorem d_M_cut_26 : decode c_M_cut 26 = .ok (.iload_n 1, 1) := by decide +kernel
theorem d_M_cut_27 : decode c_M_cut 27 = .ok (.iconst 1, 1) := by decide +kernel
theorem d_M_cut_28 : decode c_M_cut 28 = .ok (.bastore, 1) := by decide +kernel
theorem d_M_cut_29 : decode c_M_cut 29 = .ok (.iload_n 2, 1) := by decide +kernel
theorem d_M_cut_30 : decode c_M_cut 30 = .ok (.ireturn, 1) := by decide +kernel
theorem d_M_join_0 : decode c_M_join 0 = .ok (.aload_n 0, 1) := by decide +kernel
theorem d_M_join_1 : decode c_M_join 1 = .ok (.aload_n 0, 1) := by decide +kernel
theorem d_M_join_2 : decode c_M_join 2 = .ok (.iload_n 1, 1) := by decide +kernel
theorem d_M_join_3 : decode c_M_join 3 = .ok (.invokevirtual 28, 3) := by decide +kernel
theorem d_M_join_6 : decode c_M_join 6 = .ok (.invokevirtual 24, 3) := by decide +kernel
theorem d_M_join_9 : decode c_M_join 9 = .ok (.ifCond .ne 5, 3) := by decide +kernel
theorem d_M_join_12 : decode c_M_join 12 = .ok (.iconst 0, 1) := by decide +kernel
theorem d_M_join_13 : decode c_M_join 13 = .ok (.ireturn, 1) := by decide +kernel
theorem d_M_join_14 : decode c_M_join 14 = .ok (.aload_n 0, 1) := by decide +kernel
theorem d_M_join_15 : decode c_M_join 15 = .ok (.iload_n 1, 1) := by decide +kernel
theorem d_M_join_16 : decode c_M_join 16 = .ok (.invokevirtual 36, 3) := by decide +kernel
theorem d_M_join_19 : decode c_M_join 19 = .ok (.istore_n 2, 1) := by decide +kernel
theorem d_M_join_20 : decode c_M_join 20 = .ok (.iload_n 2, 1) := by decide +kernel
theorem d_M_join_21 : decode c_M_join 21 = .ok (.aload_n 0, 1) := by decide +kernel
theorem d_M_join_22 : decode c_M_join 22 = .ok (.getfield 7, 3) := by decide +kernel
theorem d_M_join_25 : decode c_M_join 25 = .ok (.if_icmp .ne 5, 3) := by decide +kernel
theorem d_M_join_28 : decode c_M_join 28 = .ok (.iconst 0, 1) := by decide +kernel
theorem d_M_join_29 : decode c_M_join 29 = .ok (.ireturn, 1) := by decide +kernel
theorem d_M_join_30 : decode c_M_join 30 = .ok (.aload_n 0, 1) := by decide +kernel
theorem d_M_join_31 : decode c_M_join 31 = .ok (.getfield 13, 3) := by decide +kernel
theorem d_M_join_34 : decode c_M_join 34 = .ok (.iload_n 2, 1) := by decide +kernel
theorem d_M_join_35 : decode c_M_join 35 = .ok (.iconst 0, 1) := by decide +kernel
theorem d_M_join_36 : decode c_M_join 36 = .ok (.bastore, 1) := by decide +kernel
theorem d_M_join_37 : decode c_M_join 37 = .ok (.aload_n 0, 1) := by decide +kernel
theorem d_M_join_38 : decode c_M_join 38 = .ok (.iload_n 1, 1) := by decide +kernel
theorem d_M_join_39 : decode c_M_join 39 = .ok (.invokevirtual 36, 3) := by decide +kernel
theorem d_M_join_42 : decode c_M_join 42 = .ok (.aload_n 0, 1) := by decide +kernel
theorem d_M_join_43 : decode c_M_join 43 = .ok (.iload_n 1, 1) := by decide +kernel
theorem d_M_join_44 : decode c_M_join 44 = .ok (.invokevirtual 32, 3) := by decide +kernel
theorem d_M_join_47 : decode c_M_join 47 = .ok (.isub, 1) := by decide +kernel
theorem d_M_join_48 : decode c_M_join 48 = .ok (.ireturn, 1) := by decide +kernel
theorem d_M_make_0 : decode c_M_make 0 = .ok (.aload_n 0, 1) := by decide +kernel
theorem d_M_make_1 : decode c_M_make 1 = .ok (.aload_n 0, 1) := by decide +kernel
theorem d_M_make_2 : decode c_M_make 2 = .ok (.iload_n 1, 1) := by decide +kernel
theorem d_M_make_3 : decode c_M_make 3 = .ok (.invokevirtual 28, 3) := by decide +kernel
theorem d_M_make_6 : decode c_M_make 6 = .ok (.ifCond .eq 20, 3) := by decide +kernel
theorem d_M_make_9 : decode c_M_make 9 = .ok (.iload_n 2, 1) := by decide +kernel
theorem d_M_make_10 : decode c_M_make 10 = .ok (.iload_n 1, 1) := by decide +kernel
theorem d_M_make_11 : decode c_M_make 11 = .ok (.if_icmp .le 15, 3) := by decide +kernel
theorem d_M_make_14 : decode c_M_make 14 = .ok (.iload_n 2, 1) := by decide +kernel
theorem d_M_make_15 : decode c_M_make 15 = .ok (.aload_n 0, 1) := by decide +kernel
theorem d_M_make_16 : decode c_M_make 16 = .ok (.getfield 7, 3) := by decide +kernel
theorem d_M_make_19 : decode c_M_make 19 = .ok (.if_icmp .gt 7, 3) := by decide +kernel
theorem d_M_make_22 : decode c_M_make 22 = .ok (.iconst 1, 1) := by decide +kernel
theorem d_M_make_23 : decode c_M_make 23 = .ok (.goto 4, 3) := by decide +kernel
theorem d_M_make_26 : decode c_M_make 26 = .ok (.iconst 0, 1) := by decide +kernel
theorem d_M_make_27 : decode c_M_make 27 = .ok (.invokevirtual 24, 3) := by decide +kernel
theorem d_M_make_30 : decode c_M_make 30 = .ok (.ifCond .ne 5, 3) := by decide +kernel
theorem d_M_make_33 : decode c_M_make 33 = .ok (.iconst 0, 1) := by decide +kernel
theorem d_M_make_34 : decode c_M_make 34 = .ok (.ireturn, 1) := by decide +kernel
theorem d_M_make_35 : decode c_M_make 35 = .ok (.iload_n 1, 1) := by decide +kernel
theorem d_M_make_36 : decode c_M_make 36 = .ok (.istore_n 3, 1) := by decide +kernel
theorem d_M_make_37 : decode c_M_make 37 = .ok (.iload_n 3, 1) := by decide +kernel
theorem d_M_make_38 : decode c_M_make 38 = .ok (.iload_n 2, 1) := by decide +kernel
theorem d_M_make_39 : decode c_M_make 39 = .ok (.if_icmp .gt 30, 3) := by decide +kernel
theorem d_M_make_42 : decode c_M_make 42 = .ok (.aload_n 0, 1) := by decide +kernel
theorem d_M_make_43 : decode c_M_make 43 = .ok (.getfield 13, 3) := by decide +kernel
theorem d_M_make_46 : decode c_M_make 46 = .ok (.iload_n 3, 1) := by decide +kernel
theorem d_M_make_47 : decode c_M_make 47 = .ok (.iload_n 3, 1) := by decide +kernel
theorem d_M_make_48 : decode c_M_make 48 = .ok (.iload_n 1, 1) := by decide +kernel
theorem d_M_make_49 : decode c_M_make 49 = .ok (.if_icmp .eq 8, 3) := by decide +kernel
theorem d_M_make_52 : decode c_M_make 52 = .ok (.iload_n 3, 1) := by decide +kernel
theorem d_M_make_53 : decode c_M_make 53 = .ok (.iload_n 2, 1) := by decide +kernel
theorem d_M_make_54 : decode c_M_make 54 = .ok (.if_icmp .ne 7, 3) := by decide +kernel
theorem d_M_make_57 : decode c_M_make 57 = .ok (.iconst 1, 1) := by decide +kernel
theorem d_M_make_58 : decode c_M_make 58 = .ok (.goto 4, 3) := by decide +kernel
theorem d_M_make_61 : decode c_M_make 61 = .ok (.iconst 0, 1) := by decide +kernel
theorem d_M_make_62 : decode c_M_make 62 = .ok (.bastore, 1) := by decide +kernel
theorem d_M_make_63 : decode c_M_make 63 = .ok (.iinc 3 1, 3) := by decide +kernel
theorem d_M_make_66 : decode c_M_make 66 = .ok (.goto (-29), 3) := by decide +kernel
theorem d_M_make_69 : decode c_M_make 69 = .ok (.aload_n 0, 1) := by decide +kernel
theorem d_M_make_70 : decode c_M_make 70 = .ok (.invokevirtual 39, 3) := by decide +kernel
theorem d_M_make_73 : decode c_M_make 73 = .ok (.ireturn, 1) := by decide +kernel
theorem d_M_begin_0 : decode c_M_begin 0 = .ok (.aload_n 0, 1) := by decide +kernel
theorem d_M_begin_1 : decode c_M_begin 1 = .ok (.aload_n 0, 1) := by decide +kernel
theorem d_M_begin_2 : decode c_M_begin 2 = .ok (.iload_n 1, 1) := by decide +kernel
theorem d_M_begin_3 : decode c_M_begin 3 = .ok (.invokevirtual 28, 3) := by decide +kernel
theorem d_M_begin_6 : decode c_M_begin 6 = .ok (.invokevirtual 24, 3) := by decide +kernel
theorem d_M_begin_9 : decode c_M_begin 9 = .ok (.ifCond .eq 11, 3) := by decide +kernel
theorem d_M_begin_12 : decode c_M_begin 12 = .ok (.aload_n 0, 1) := by decide +kernel
theorem d_M_begin_13 : decode c_M_begin 13 = .ok (.iload_n 1, 1) := by decide +kernel
theorem d_M_begin_14 : decode c_M_begin 14 = .ok (.invokevirtual 32, 3) := by decide +kernel
theorem d_M_begin_17 : decode c_M_begin 17 = .ok (.goto 4, 3) := by decide +kernel
theorem d_M_begin_20 : decode c_M_begin 20 = .ok (.iconst 0, 1) := by decide +kernel
theorem d_M_begin_21 : decode c_M_begin 21 = .ok (.ireturn, 1) := by decide +kernel
theorem d_M_size_0 : decode c_M_size 0 = .ok (.aload_n 0, 1) := by decide +kernel
theorem d_M_size_1 : decode c_M_size 1 = .ok (.aload_n 0, 1) := by decide +kernel
theorem d_M_size_2 : decode c_M_size 2 = .ok (.iload_n 1, 1) := by decide +kernel
theorem d_M_size_3 : decode c_M_size 3 = .ok (.invokevirtual 28, 3) := by decide +kernel
theorem d_M_size_6 : decode c_M_size 6 = .ok (.invokevirtual 24, 3) := by decide +kernel
theorem d_M_size_9 : decode c_M_size 9 = .ok (.ifCond .eq 17, 3) := by decide +kernel
theorem d_M_size_12 : decode c_M_size 12 = .ok (.aload_n 0, 1) := by decide +kernel
theorem d_M_size_13 : decode c_M_size 13 = .ok (.iload_n 1, 1) := by decide +kernel
theorem d_M_size_14 : decode c_M_size 14 = .ok (.invokevirtual 36, 3) := by decide +kernel
theorem d_M_size_17 : decode c_M_size 17 = .ok (.aload_n 0, 1) := by decide +kernel
theorem d_M_size_18 : decode c_M_size 18 = .ok (.iload_n 1, 1) := by decide +kernel
theorem d_M_size_19 : decode c_M_size 19 = .ok (.invokevirtual 32, 3) := by decide +kernel
theorem d_M_size_22 : decode c_M_size 22 = .ok (.isub, 1) := by decide +kernel
theorem d_M_size_23 : decode c_M_size 23 = .ok (.goto 4, 3) := by decide +kernel
theorem d_M_size_26 : decode c_M_size 26 = .ok (.iconst 0, 1) := by decide +kernel
theorem d_M_size_27 : decode c_M_size 27 = .ok (.ireturn, 1) := by decide +kernel
theorem d_M_start_0 : decode c_M_start 0 = .ok (.aload_n 0, 1) := by decide +kernel
theorem d_M_start_1 : decode c_M_start 1 = .ok (.aload_n 0, 1) := by decide +kernel
theorem d_M_start_2 : decode c_M_start 2 = .ok (.iload_n 1, 1) := by decide +kernel
theorem d_M_start_3 : decode c_M_start 3 = .ok (.invokevirtual 42, 3) := by decide +kernel
theorem d_M_start_6 : decode c_M_start 6 = .ok (.invokevirtual 24, 3) := by decide +kernel
theorem d_M_start_9 : decode c_M_start 9 = .ok (.ifCond .eq 14, 3) := by decide +kernel
theorem d_M_start_12 : decode c_M_start 12 = .ok (.aload_n 0, 1) := by decide +kernel
theorem d_M_start_13 : decode c_M_start 13 = .ok (.bipush 32, 2) := by decide +kernel
theorem d_M_start_15 : decode c_M_start 15 = .ok (.iload_n 1, 1) := by decide +kernel
theorem d_M_start_16 : decode c_M_start 16 = .ok (.imul, 1) := by decide +kernel
theorem d_M_start_17 : decode c_M_start 17 = .ok (.invokevirtual 32, 3) := by decide +kernel
theorem d_M_start_20 : decode c_M_start 20 = .ok (.goto 4, 3) := by decide +kernel
theorem d_M_start_23 : decode c_M_start 23 = .ok (.iconst 0, 1) := by decide +kernel
theorem d_M_start_24 : decode c_M_start 24 = .ok (.ireturn, 1) := by decide +kernel
theorem d_M_begins_0 : decode c_M_begins 0 = .ok (.aload_n 0, 1) := by decide +kernel
theorem d_M_begins_1 : decode c_M_begins 1 = .ok (.aload_n 0, 1) := by decide +kernel
theorem d_M_begins_2 : decode c_M_begins 2 = .ok (.iload_n 1, 1) := by decide +kernel
theorem d_M_begins_3 : decode c_M_begins 3 = .ok (.invokevirtual 42, 3) := by decide +kernel
theorem d_M_begins_6 : decode c_M_begins 6 = .ok (.invokevirtual 24, 3) := by decide +kernel
theorem d_M_begins_9 : decode c_M_begins 9 = .ok (.ifCond .ne 5, 3) := by decide +kernel
theorem d_M_begins_12 : decode c_M_begins 12 = .ok (.iconst 0, 1) := by decide +kernel
theorem d_M_begins_13 : decode c_M_begins 13 = .ok (.ireturn, 1) := by decide +kernel
theorem d_M_begins_14 : decode c_M_begins 14 = .ok (.iconst 0, 1) := by decide +kernel
theorem d_M_begins_15 : decode c_M_begins 15 = .ok (.istore_n 2, 1) := by decide +kernel
theorem d_M_begins_16 : decode c_M_begins 16 = .ok (.bipush 32, 2) := by decide +kernel
theorem d_M_begins_18 : decode c_M_begins 18 = .ok (.iload_n 1, 1) := by decide +kernel
theorem d_M_begins_19 : decode c_M_begins 19 = .ok (.imul, 1) := by decide +kernel
theorem d_M_begins_20 : decode c_M_begins 20 = .ok (.istore_n 3, 1) := by decide +kernel
theorem d_M_begins_21 : decode c_M_begins 21 = .ok (.iload_n 3, 1) := by decide +kernel
theorem d_M_begins_22 : decode c_M_begins 22 = .ok (.bipush 32, 2) := by decide +kernel
theorem d_M_begins_24 : decode c_M_begins 24 = .ok (.iload_n 1, 1) := by decide +kernel
theorem d_M_begins_25 : decode c_M_begins 25 = .ok (.imul, 1) := by decide +kernel
theorem d_M_begins_26 : decode c_M_begins 26 = .ok (.bipush 32, 2) := by decide +kernel
theorem d_M_begins_28 : decode c_M_begins 28 = .ok (.iadd, 1) := by decide +kernel
theorem d_M_begins_29 : decode c_M_begins 29 = .ok (.if_icmp .ge 34, 3) := by decide +kernel
theorem d_M_begins_32 : decode c_M_begins 32 = .ok (.iload_n 3, 1) := by decide +kernel
theorem d_M_begins_33 : decode c_M_begins 33 = .ok (.aload_n 0, 1) := by decide +kernel
theorem d_M_begins_34 : decode c_M_begins 34 = .ok (.getfield 7, 3) := by decide +kernel
theorem d_M_begins_37 : decode c_M_begins 37 = .ok (.if_icmp .ge 26, 3) := by decide +kernel
theorem d_M_begins_40 : decode c_M_begins 40 = .ok (.aload_n 0, 1) := by decide +kernel
theorem d_M_begins_41 : decode c_M_begins 41 = .ok (.getfield 13, 3) := by decide +kernel
theorem d_M_begins_44 : decode c_M_begins 44 = .ok (.iload_n 3, 1) := by decide +kernel
theorem d_M_begins_45 : decode c_M_begins 45 = .ok (.baload, 1) := by decide +kernel
theorem d_M_begins_46 : decode c_M_begins 46 = .ok (.ifCond .eq 9, 3) := by decide +kernel
theorem d_M_begins_49 : decode c_M_begins 49 = .ok (.iload_n 2, 1) := by decide +kernel
theorem d_M_begins_50 : decode c_M_begins 50 = .ok (.iconst 1, 1) := by decide +kernel
theorem d_M_begins_51 : decode c_M_begins 51 = .ok (.iadd, 1) := by decide +kernel
theorem d_M_begins_52 : decode c_M_begins 52 = .ok (.goto 4, 3) := by decide +kernel
theorem d_M_begins_55 : decode c_M_begins 55 = .ok (.iload_n 2, 1) := by decide +kernel
theorem d_M_begins_56 : decode c_M_begins 56 = .ok (.istore_n 2, 1) := by decide +kernel
theorem d_M_begins_57 : decode c_M_begins 57 = .ok (.iinc 3 1, 3) := by decide +kernel
theorem d_M_begins_60 : decode c_M_begins 60 = .ok (.goto (-39), 3) := by decide +kernel
theorem d_M_begins_63 : decode c_M_begins 63 = .ok (.iload_n 2, 1) := by decide +kernel
theorem d_M_begins_64 : decode c_M_begins 64 = .ok (.ireturn, 1) := by decide +kernel
theorem d_M_count_0 : decode c_M_count 0 = .ok (.aload_n 0, 1) := by decide +kernel
theorem d_M_count_1 : decode c_M_count 1 = .ok (.iload_n 1, 1) := by decide +kernel
theorem d_M_count_2 : decode c_M_count 2 = .ok (.ifCond .lt 12, 3) := by decide +kernel
theorem d_M_count_5 : decode c_M_count 5 = .ok (.iload_n 1, 1) := by decide +kernel
theorem d_M_count_6 : decode c_M_count 6 = .ok (.iconst 4, 1) := by decide +kernel
theorem d_M_count_7 : decode c_M_count 7 = .ok (.if_icmp .gt 7, 3) := by decide +kernel
theorem d_M_count_10 : decode c_M_count 10 = .ok (.iconst 1, 1) := by decide +kernel
theorem d_M_count_11 : decode c_M_count 11 = .ok (.goto 4, 3) := by decide +kernel
theorem d_M_count_14 : decode c_M_count 14 = .ok (.iconst 0, 1) := by decide +kernel
theorem d_M_count_15 : decode c_M_count 15 = .ok (.invokevirtual 24, 3) := by decide +kernel
theorem d_M_count_18 : decode c_M_count 18 = .ok (.ifCond .ne 5, 3) := by decide +kernel
theorem d_M_count_21 : decode c_M_count 21 = .ok (.iconst 0, 1) := by decide +kernel
theorem d_M_count_22 : decode c_M_count 22 = .ok (.ireturn, 1) := by decide +kernel
theorem d_M_count_23 : decode c_M_count 23 = .ok (.iconst 0, 1) := by decide +kernel
theorem d_M_count_24 : decode c_M_count 24 = .ok (.istore_n 2, 1) := by decide +kernel
theorem d_M_count_25 : decode c_M_count 25 = .ok (.sipush 16384, 3) := by decide +kernel
theorem d_M_count_28 : decode c_M_count 28 = .ok (.istore_n 3, 1) := by decide +kernel
theorem d_M_count_29 : decode c_M_count 29 = .ok (.iconst 0, 1) := by decide +kernel
theorem d_M_count_30 : decode c_M_count 30 = .ok (.istore 4, 2) := by decide +kernel
theorem d_M_count_32 : decode c_M_count 32 = .ok (.iload 4, 2) := by decide +kernel
theorem d_M_count_34 : decode c_M_count 34 = .ok (.aload_n 0, 1) := by decide +kernel
theorem d_M_count_35 : decode c_M_count 35 = .ok (.getfield 7, 3) := by decide +kernel
theorem d_M_count_38 : decode c_M_count 38 = .ok (.if_icmp .ge 51, 3) := by decide +kernel
theorem d_M_count_41 : decode c_M_count 41 = .ok (.aload_n 0, 1) := by decide +kernel
theorem d_M_count_42 : decode c_M_count 42 = .ok (.iload 4, 2) := by decide +kernel
theorem d_M_count_44 : decode c_M_count 44 = .ok (.invokevirtual 36, 3) := by decide +kernel
theorem d_M_count_47 : decode c_M_count 47 = .ok (.iload 4, 2) := by decide +kernel
theorem d_M_count_49 : decode c_M_count 49 = .ok (.isub, 1) := by decide +kernel
theorem d_M_count_50 : decode c_M_count 50 = .ok (.istore 5, 2) := by decide +kernel
theorem d_M_count_52 : decode c_M_count 52 = .ok (.iload 5, 2) := by decide +kernel
theorem d_M_count_54 : decode c_M_count 54 = .ok (.iload_n 2, 1) := by decide +kernel
theorem d_M_count_55 : decode c_M_count 55 = .ok (.if_icmp .le 8, 3) := by decide +kernel
theorem d_M_count_58 : decode c_M_count 58 = .ok (.iload 5, 2) := by decide +kernel
theorem d_M_count_60 : decode c_M_count 60 = .ok (.goto 4, 3) := by decide +kernel
theorem d_M_count_63 : decode c_M_count 63 = .ok (.iload_n 2, 1) := by decide +kernel
theorem d_M_count_64 : decode c_M_count 64 = .ok (.istore_n 2, 1) := by decide +kernel
theorem d_M_count_65 : decode c_M_count 65 = .ok (.iload 5, 2) := by decide +kernel
theorem d_M_count_67 : decode c_M_count 67 = .ok (.iload_n 3, 1) := by decide +kernel
theorem d_M_count_68 : decode c_M_count 68 = .ok (.if_icmp .ge 8, 3) := by decide +kernel
theorem d_M_count_71 : decode c_M_count 71 = .ok (.iload 5, 2) := by decide +kernel
theorem d_M_count_73 : decode c_M_count 73 = .ok (.goto 4, 3) := by decide +kernel
theorem d_M_count_76 : decode c_M_count 76 = .ok (.iload_n 3, 1) := by decide +kernel
theorem d_M_count_77 : decode c_M_count 77 = .ok (.istore_n 3, 1) := by decide +kernel
theorem d_M_count_78 : decode c_M_count 78 = .ok (.aload_n 0, 1) := by decide +kernel
theorem d_M_count_79 : decode c_M_count 79 = .ok (.iload 4, 2) := by decide +kernel
theorem d_M_count_81 : decode c_M_count 81 = .ok (.invokevirtual 36, 3) := by decide +kernel
theorem d_M_count_84 : decode c_M_count 84 = .ok (.istore 4, 2) := by decide +kernel
theorem d_M_count_86 : decode c_M_count 86 = .ok (.goto (-54), 3) := by decide +kernel
theorem d_M_count_89 : decode c_M_count 89 = .ok (.iload_n 1, 1) := by decide +kernel
theorem d_M_count_90 : decode c_M_count 90 = .ok (.tableswitch 47 0 3 #[30, 35, 40, 45], 30) := by decide +kernel
theorem d_M_count_120 : decode c_M_count 120 = .ok (.aload_n 0, 1) := by decide +kernel
theorem d_M_count_121 : decode c_M_count 121 = .ok (.getfield 7, 3) := by decide +kernel
theorem d_M_count_124 : decode c_M_count 124 = .ok (.ireturn, 1) := by decide +kernel
theorem d_M_count_125 : decode c_M_count 125 = .ok (.aload_n 0, 1) := by decide +kernel
theorem d_M_count_126 : decode c_M_count 126 = .ok (.invokevirtual 20, 3) := by decide +kernel
theorem d_M_count_129 : decode c_M_count 129 = .ok (.ireturn, 1) := by decide +kernel
theorem d_M_count_130 : decode c_M_count 130 = .ok (.aload_n 0, 1) := by decide +kernel
theorem d_M_count_131 : decode c_M_count 131 = .ok (.invokevirtual 39, 3) := by decide +kernel
theorem d_M_count_134 : decode c_M_count 134 = .ok (.ireturn, 1) := by decide +kernel
theorem d_M_count_135 : decode c_M_count 135 = .ok (.iload_n 2, 1) := by decide +kernel
theorem d_M_count_136 : decode c_M_count 136 = .ok (.ireturn, 1) := by decide +kernel
theorem d_M_count_137 : decode c_M_count 137 = .ok (.iload_n 3, 1) := by decide +kernel
theorem d_M_count_138 : decode c_M_count 138 = .ok (.ireturn, 1) := by decide +kernel
theorem d_L_space_0 : decode c_L_space 0 = .ok (.aload_n 2, 1) := by decide +kernel
theorem d_L_space_1 : decode c_L_space 1 = .ok (.iconst 0, 1) := by decide +kernel
theorem d_L_space_2 : decode c_L_space 2 = .ok (.aload_n 0, 1) := by decide +kernel
theorem d_L_space_3 : decode c_L_space 3 = .ok (.iload_n 1, 1) := by decide +kernel
theorem d_L_space_4 : decode c_L_space 4 = .ok (.invokevirtual 7, 3) := by decide +kernel
theorem d_L_space_7 : decode c_L_space 7 = .ok (.i2l, 1) := by decide +kernel
theorem d_L_space_8 : decode c_L_space 8 = .ok (.lastore, 1) := by decide +kernel
theorem d_L_space_9 : decode c_L_space 9 = .ok (.goto 6, 3) := by decide +kernel
theorem d_L_space_12 : decode c_L_space 12 = .ok (.astore_n 3, 1) := by decide +kernel
theorem d_L_space_13 : decode c_L_space 13 = .ok (.iconst 1, 1) := by decide +kernel
theorem d_L_space_14 : decode c_L_space 14 = .ok (.ireturn, 1) := by decide +kernel
theorem d_L_space_15 : decode c_L_space 15 = .ok (.iconst 0, 1) := by decide +kernel
theorem d_L_space_16 : decode c_L_space 16 = .ok (.ireturn, 1) := by decide +kernel
theorem d_L_cut_0 : decode c_L_cut 0 = .ok (.aload_n 2, 1) := by decide +kernel
theorem d_L_cut_1 : decode c_L_cut 1 = .ok (.iconst 0, 1) := by decide +kernel
theorem d_L_cut_2 : decode c_L_cut 2 = .ok (.aload_n 0, 1) := by decide +kernel
theorem d_L_cut_3 : decode c_L_cut 3 = .ok (.iload_n 1, 1) := by decide +kernel
theorem d_L_cut_4 : decode c_L_cut 4 = .ok (.invokevirtual 15, 3) := by decide +kernel
theorem d_L_cut_7 : decode c_L_cut 7 = .ok (.i2l, 1) := by decide +kernel
theorem d_L_cut_8 : decode c_L_cut 8 = .ok (.lastore, 1) := by decide +kernel
theorem d_L_cut_9 : decode c_L_cut 9 = .ok (.goto 6, 3) := by decide +kernel
theorem d_L_cut_12 : decode c_L_cut 12 = .ok (.astore_n 3, 1) := by decide +kernel
theorem d_L_cut_13 : decode c_L_cut 13 = .ok (.iconst 1, 1) := by decide +kernel
theorem d_L_cut_14 : decode c_L_cut 14 = .ok (.ireturn, 1) := by decide +kernel
theorem d_L_cut_15 : decode c_L_cut 15 = .ok (.iconst 0, 1) := by decide +kernel
theorem d_L_cut_16 : decode c_L_cut 16 = .ok (.ireturn, 1) := by decide +kernel
theorem d_L_join_0 : decode c_L_join 0 = .ok (.aload_n 2, 1) := by decide +kernel
theorem d_L_join_1 : decode c_L_join 1 = .ok (.iconst 0, 1) := by decide +kernel
theorem d_L_join_2 : decode c_L_join 2 = .ok (.aload_n 0, 1) := by decide +kernel
theorem d_L_join_3 : decode c_L_join 3 = .ok (.iload_n 1, 1) := by decide +kernel
theorem d_L_join_4 : decode c_L_join 4 = .ok (.invokevirtual 20, 3) := by decide +kernel
theorem d_L_join_7 : decode c_L_join 7 = .ok (.i2l, 1) := by decide +kernel
theorem d_L_join_8 : decode c_L_join 8 = .ok (.lastore, 1) := by decide +kernel
theorem d_L_join_9 : decode c_L_join 9 = .ok (.goto 6, 3) := by decide +kernel
theorem d_L_join_12 : decode c_L_join 12 = .ok (.astore_n 3, 1) := by decide +kernel
theorem d_L_join_13 : decode c_L_join 13 = .ok (.iconst 1, 1) := by decide +kernel
theorem d_L_join_14 : decode c_L_join 14 = .ok (.ireturn, 1) := by decide +kernel
theorem d_L_join_15 : decode c_L_join 15 = .ok (.iconst 0, 1) := by decide +kernel
theorem d_L_join_16 : decode c_L_join 16 = .ok (.ireturn, 1) := by decide +kernel
theorem d_L_make_0 : decode c_L_make 0 = .ok (.aload_n 3, 1) := by decide +kernel
theorem d_L_make_1 : decode c_L_make 1 = .ok (.iconst 0, 1) := by decide +kernel
theorem d_L_make_2 : decode c_L_make 2 = .ok (.aload_n 0, 1) := by decide +kernel
theorem d_L_make_3 : decode c_L_make 3 = .ok (.iload_n 1, 1) := by decide +kernel
theorem d_L_make_4 : decode c_L_make 4 = .ok (.iload_n 2, 1) := by decide +kernel
theorem d_L_make_5 : decode c_L_make 5 = .ok (.invokevirtual 23, 3) := by decide +kernel
theorem d_L_make_8 : decode c_L_make 8 = .ok (.i2l, 1) := by decide +kernel
theorem d_L_make_9 : decode c_L_make 9 = .ok (.lastore, 1) := by decide +kernel
theorem d_L_make_10 : decode c_L_make 10 = .ok (.goto 7, 3) := by decide +kernel
theorem d_L_make_13 : decode c_L_make 13 = .ok (.astore 4, 2) := by decide +kernel
theorem d_L_make_15 : decode c_L_make 15 = .ok (.iconst 1, 1) := by decide +kernel
theorem d_L_make_16 : decode c_L_make 16 = .ok (.ireturn, 1) := by decide +kernel
theorem d_L_make_17 : decode c_L_make 17 = .ok (.iconst 0, 1) := by decide +kernel
theorem d_L_make_18 : decode c_L_make 18 = .ok (.ireturn, 1) := by decide +kernel
theorem d_L_begin_0 : decode c_L_begin 0 = .ok (.aload_n 2, 1) := by decide +kernel
theorem d_L_begin_1 : decode c_L_begin 1 = .ok (.iconst 0, 1) := by decide +kernel
theorem d_L_begin_2 : decode c_L_begin 2 = .ok (.aload_n 0, 1) := by decide +kernel
theorem d_L_begin_3 : decode c_L_begin 3 = .ok (.iload_n 1, 1) := by decide +kernel
theorem d_L_begin_4 : decode c_L_begin 4 = .ok (.invokevirtual 27, 3) := by decide +kernel
theorem d_L_begin_7 : decode c_L_begin 7 = .ok (.i2l, 1) := by decide +kernel
theorem d_L_begin_8 : decode c_L_begin 8 = .ok (.lastore, 1) := by decide +kernel
theorem d_L_begin_9 : decode c_L_begin 9 = .ok (.goto 6, 3) := by decide +kernel
theorem d_L_begin_12 : decode c_L_begin 12 = .ok (.astore_n 3, 1) := by decide +kernel
theorem d_L_begin_13 : decode c_L_begin 13 = .ok (.iconst 1, 1) := by decide +kernel
theorem d_L_begin_14 : decode c_L_begin 14 = .ok (.ireturn, 1) := by decide +kernel
theorem d_L_begin_15 : decode c_L_begin 15 = .ok (.iconst 0, 1) := by decide +kernel
theorem d_L_begin_16 : decode c_L_begin 16 = .ok (.ireturn, 1) := by decide +kernel
theorem d_L_size_0 : decode c_L_size 0 = .ok (.aload_n 2, 1) := by decide +kernel
theorem d_L_size_1 : decode c_L_size 1 = .ok (.iconst 0, 1) := by decide +kernel
theorem d_L_size_2 : decode c_L_size 2 = .ok (.aload_n 0, 1) := by decide +kernel
theorem d_L_size_3 : decode c_L_size 3 = .ok (.iload_n 1, 1) := by decide +kernel
theorem d_L_size_4 : decode c_L_size 4 = .ok (.invokevirtual 30, 3) := by decide +kernel
theorem d_L_size_7 : decode c_L_size 7 = .ok (.i2l, 1) := by decide +kernel
theorem d_L_size_8 : decode c_L_size 8 = .ok (.lastore, 1) := by decide +kernel
theorem d_L_size_9 : decode c_L_size 9 = .ok (.goto 6, 3) := by decide +kernel
theorem d_L_size_12 : decode c_L_size 12 = .ok (.astore_n 3, 1) := by decide +kernel
theorem d_L_size_13 : decode c_L_size 13 = .ok (.iconst 1, 1) := by decide +kernel
theorem d_L_size_14 : decode c_L_size 14 = .ok (.ireturn, 1) := by decide +kernel
theorem d_L_size_15 : decode c_L_size 15 = .ok (.iconst 0, 1) := by decide +kernel
theorem d_L_size_16 : decode c_L_size 16 = .ok (.ireturn, 1) := by decide +kernel
theorem d_L_start_0 : decode c_L_start 0 = .ok (.aload_n 2, 1) := by decide +kernel
theorem d_L_start_1 : decode c_L_start 1 = .ok (.iconst 0, 1) := by decide +kernel
theorem d_L_start_2 : decode c_L_start 2 = .ok (.aload_n 0, 1) := by decide +kernel
theorem d_L_start_3 : decode c_L_start 3 = .ok (.iload_n 1, 1) := by decide +kernel
theorem d_L_start_4 : decode c_L_start 4 = .ok (.invokevirtual 33, 3) := by decide +kernel
theorem d_L_start_7 : decode c_L_start 7 = .ok (.i2l, 1) := by decide +kernel
theorem d_L_start_8 : decode c_L_start 8 = .ok (.lastore, 1) := by decide +kernel
theorem d_L_start_9 : decode c_L_start 9 = .ok (.goto 6, 3) := by decide +kernel
theorem d_L_start_12 : decode c_L_start 12 = .ok (.astore_n 3, 1) := by decide +kernel
theorem d_L_start_13 : decode c_L_start 13 = .ok (.iconst 1, 1) := by decide +kernel
theorem d_L_start_14 : decode c_L_start 14 = .ok (.ireturn, 1) := by decide +kernel
theorem d_L_start_15 : decode c_L_start 15 = .ok (.iconst 0, 1) := by decide +kernel
theorem d_L_start_16 : decode c_L_start 16 = .ok (.ireturn, 1) := by decide +kernel
theorem d_L_begins_0 : decode c_L_begins 0 = .ok (.aload_n 2, 1) := by decide +kernel
theorem d_L_begins_1 : decode c_L_begins 1 = .ok (.iconst 0, 1) := by decide +kernel
theorem d_L_begins_2 : decode c_L_begins 2 = .ok (.aload_n 0, 1) := by decide +kernel
theorem d_L_begins_3 : decode c_L_begins 3 = .ok (.iload_n 1, 1) := by decide +kernel
theorem d_L_begins_4 : decode c_L_begins 4 = .ok (.invokevirtual 36, 3) := by decide +kernel
theorem d_L_begins_7 : decode c_L_begins 7 = .ok (.i2l, 1) := by decide +kernel
theorem d_L_begins_8 : decode c_L_begins 8 = .ok (.lastore, 1) := by decide +kernel
theorem d_L_begins_9 : decode c_L_begins 9 = .ok (.goto 6, 3) := by decide +kernel
theorem d_L_begins_12 : decode c_L_begins 12 = .ok (.astore_n 3, 1) := by decide +kernel
theorem d_L_begins_13 : decode c_L_begins 13 = .ok (.iconst 1, 1) := by decide +kernel
theorem d_L_begins_14 : decode c_L_begins 14 = .ok (.ireturn, 1) := by decide +kernel
theorem d_L_begins_15 : decode c_L_begins 15 = .ok (.iconst 0, 1) := by decide +kernel
theorem d_L_begins_16 : decode c_L_begins 16 = .ok (.ireturn, 1) := by decide +kernel
theorem d_L_count_0 : decode c_L_count 0 = .ok (.aload_n 2, 1) := by decide +kernel
theorem d_L_count_1 : decode c_L_count 1 = .ok (.iconst 0, 1) := by decide +kernel
theorem d_L_count_2 : decode c_L_count 2 = .ok (.aload_n 0, 1) := by decide +kernel
theorem d_L_count_3 : decode c_L_count 3 = .ok (.iload_n 1, 1) := by decide +kernel
theorem d_L_count_4 : decode c_L_count 4 = .ok (.invokevirtual 39, 3) := by decide +kernel
theorem d_L_count_7 : decode c_L_count 7 = .ok (.i2l, 1) := by decide +kernel
theorem d_L_count_8 : decode c_L_count 8 = .ok (.lastore, 1) := by decide +kernel
theorem d_L_count_9 : decode c_L_count 9 = .ok (.goto 6, 3) := by decide +kernel
theorem d_L_count_12 : decode c_L_count 12 = .ok (.astore_n 3, 1) := by decide +kernel
theorem d_L_count_13 : decode c_L_count 13 = .ok (.iconst 1, 1) := by decide +kernel
theorem d_L_count_14 : decode c_L_count 14 = .ok (.ireturn, 1) := by decide +kernel
theorem d_L_count_15 : decode c_L_count 15 = .ok (.iconst 0, 1) := by decide +kernel
theorem d_L_count_16 : decode c_L_count 16 = .ok (.ireturn, 1) := by decide +kernel
end
section
/-! CALLS over a part of the world: one row a call. cc_P: a contract's start over the cells W (no more, no fewer); cc_B: its end -/
abbrev cc_P (D : va_G) (cl : List vw_C) (W : va_W) (tys : List (ClassId × FieldType)) (sz : Nat) (U : State) : Prop := U.heap.size = sz ∧ va_P D cl W U.heap ∧ va_K D cl tys U ∧ va_D (fun _ => True) W
abbrev cc_B (D : va_G) (cl : List vw_C) (tys : List (ClassId × FieldType)) (A : Nat → Prop) (W : va_W) (t : State) : Prop := va_P D cl W t.heap ∧ va_K D cl tys t ∧ va_D A W
theorem cc_blind {D : va_G} {cl : List vw_C} {W : va_W} {tys : List (ClassId × FieldType)} {sz : Nat} {av : List Value} : FrameBlind (va_Pc av (cc_P D cl W tys sz)) := fun a U g mk q => by
  obtain ⟨q0, q1, qP, qK, qD⟩ := q
  exact ⟨q0, q1, qP, va_K.moved (u := U) (U := U.calling g mk a) (Vm.Alike.refl U.vm) qK, qD⟩
theorem cc_pre {D : va_G} {cl : List vw_C} {W : va_W} {tys : List (ClassId × FieldType)} {av : List Value} {s : State} {H : Heap} {A : Nat → Prop} (hP : va_P D cl W H) (hK : va_K D cl tys s) (hD : va_D A W) : ∀ U : State, U.heap = H → s.WarmedH U.vm → va_Pc av (cc_P D cl W tys H.size) av.toArray U :=
  fun U hU hW => ⟨rfl, by rw [hU], by rw [hU]; exact hP, va_K.moved hW.alike hK, hD.weaken (fun _ _ _ _ => trivial)⟩
section CC
variable {p : Program} {l : Launch} {e : Env} {R : Room} {s : State} {m : MethodId} {args : Array Value} {below : List Frame} {meth : Method} {c : Code} {H : Heap} {locs : List Loc} {cells slots : Nat} {Q : State → Prop}
variable {y : MethodName} {bytes cc : ByteArray} {maxL nL mc ms n index : Nat} {ret : Option FieldType} {ws : List Cond} {rm : Room} {Ts : List Cond} {own C : String} {b : Addr} {As rest st0 : List Value} {pc : Nat} {ls : Array Slot}
variable {D : va_G} {cl : List vw_C} {A0 : Nat → Prop} {H0 : Heap} {w0 wc wr : va_W} {tys tys' : List (ClassId × FieldType)} {fs : List Value} {q : vw_C}
/-- an instance method that answers an int -/
theorem cc_Vi {S : Type} {post : Int32 → S → Prop} {WW : S → va_W} (S9 : CallFix p m c cc nL s args Ts own) (hP : va_P D cl w0 H) (hD : va_D A0 w0) (hK : va_K D cl tys s) (hS : va_S A0 H0 H locs) (hA : ∀ q, H0.size ≤ q → A0 q)
    (isC isR isK : List Nat) (hC : isC.map (fun i => w0[i]?) = wc.map some) (hC2 : isC.filterMap (fun i => w0[i]?) = wc) (hR : isR.map (fun i => w0[i]?) = wr.map some) (hn : va_nd isR = true) (hnc : va_nd isC = true) (hdis : ∀ i ∈ isR, i ∉ isC) (hKs : isK.filterMap (fun i => tys[i]?) = tys')
    (hM : Met l y ws rm (va_Pc (.ref b :: As) (cc_P D cl wc tys' H.size)) (va_Qi post (fun u t => cc_B D cl tys' (va_A wc H.size) (WW u) t) (va_A wc H.size)) mc ms (va_A wc H.size))
    (cw : CallW R s args own C index y bytes maxL ret ws rm mc ms n) (q0 ci : Nat) (hc : cl[ci]? = some q) (hq : q.1 = C) (he : wc[q0]? = some (b, .inr (ci, fs)))
    (hn2 : As.length = n) (hsize : ls.size = nL) (hst : st0 = As.reverse ++ .ref b :: rest) (hW : (rest.map fun v => v.category).sum ≤ 8) (hdg : decode cc pc = .ok (.invokevirtual index, 3)) (hf : cells + mc ≤ R.cells ∧ slots + ms ≤ R.slots)
    (kk : ∀ (r : Int32) (u : S) (H1 : Heap) (locs1 : List Loc), post r u → va_P D cl (wr ++ WW u) H1 → va_D A0 (wr ++ WW u) → va_S A0 H0 H1 locs1 → W p l e R s m args below meth c H1 locs1 (cells + mc) (slots + ms) Q (F0 m (pc + 3) ls (.int r :: rest))) :
    W p l e R s m args below meth c H locs cells slots Q (F0 m pc ls st0) := by
  have hPc := hP.sub (ws' := wc) isC hC2
  have hDc := hD.sub (ws' := wc) isC hnc hC
  have hKc := hK.sub (tys' := tys') isK hKs
  have hFc := va_free (wc := wc) hD hS hA isC hC
  have hrec := va_recv hKc hPc hc he
  rw [hq] at hrec
  refine va_calli (va_runV (As := As) (rest := rest) S9 hM cw ⟨cc_blind, hrec, cc_pre hPc hKc hDc⟩ rfl hn2 hsize hst (lv_room hW) hdg hf) hS (fun q _ h => hFc q h) hFc (fun r u t H1 locs1 ht hvm hw hB hz1 hk1 hS1 => ?_)
  obtain ⟨hP1, hK1, hD1⟩ := hB
  rw [ht] at hP1
  obtain ⟨hP2, hD2⟩ := va_join (wr := wr) (w1 := WW u) hP hD isC isR hC hR hn hdis hk1 hFc hP1 hD1
  exact kk r u H1 locs1 hw hP2 hD2 hS1
/-- an instance method without an answer -/
theorem cc_Vv {S : Type} {post : S → Prop} {WW : S → va_W} (S9 : CallFix p m c cc nL s args Ts own) (hP : va_P D cl w0 H) (hD : va_D A0 w0) (hK : va_K D cl tys s) (hS : va_S A0 H0 H locs) (hA : ∀ q, H0.size ≤ q → A0 q)
    (isC isR isK : List Nat) (hC : isC.map (fun i => w0[i]?) = wc.map some) (hC2 : isC.filterMap (fun i => w0[i]?) = wc) (hR : isR.map (fun i => w0[i]?) = wr.map some) (hn : va_nd isR = true) (hnc : va_nd isC = true) (hdis : ∀ i ∈ isR, i ∉ isC) (hKs : isK.filterMap (fun i => tys[i]?) = tys')
    (hM : Met l y ws rm (va_Pc (.ref b :: As) (cc_P D cl wc tys' H.size)) (va_Qv post (fun u t => cc_B D cl tys' (va_A wc H.size) (WW u) t) (va_A wc H.size)) mc ms (va_A wc H.size))
    (cw : CallW R s args own C index y bytes maxL ret ws rm mc ms n) (q0 ci : Nat) (hc : cl[ci]? = some q) (hq : q.1 = C) (he : wc[q0]? = some (b, .inr (ci, fs)))
    (hn2 : As.length = n) (hsize : ls.size = nL) (hst : st0 = As.reverse ++ .ref b :: rest) (hW : (rest.map fun v => v.category).sum ≤ 8) (hdg : decode cc pc = .ok (.invokevirtual index, 3)) (hf : cells + mc ≤ R.cells ∧ slots + ms ≤ R.slots)
    (kk : ∀ (u : S) (H1 : Heap) (locs1 : List Loc), post u → va_P D cl (wr ++ WW u) H1 → va_D A0 (wr ++ WW u) → va_S A0 H0 H1 locs1 → W p l e R s m args below meth c H1 locs1 (cells + mc) (slots + ms) Q (F0 m (pc + 3) ls rest)) :
    W p l e R s m args below meth c H locs cells slots Q (F0 m pc ls st0) := by
  have hPc := hP.sub (ws' := wc) isC hC2
  have hDc := hD.sub (ws' := wc) isC hnc hC
  have hKc := hK.sub (tys' := tys') isK hKs
  have hFc := va_free (wc := wc) hD hS hA isC hC
  have hrec := va_recv hKc hPc hc he
  rw [hq] at hrec
  refine va_callv (va_runV (As := As) (rest := rest) S9 hM cw ⟨cc_blind, hrec, cc_pre hPc hKc hDc⟩ rfl hn2 hsize hst (lv_room hW) hdg hf) hS (fun q _ h => hFc q h) hFc (fun u t H1 locs1 ht hvm hw hB hz1 hk1 hS1 => ?_)
  obtain ⟨hP1, hK1, hD1⟩ := hB
  rw [ht] at hP1
  obtain ⟨hP2, hD2⟩ := va_join (wr := wr) (w1 := WW u) hP hD isC isR hC hR hn hdis hk1 hFc hP1 hD1
  exact kk u H1 locs1 hw hP2 hD2 hS1
/-- a static method that answers an int -/
theorem cc_Si {S : Type} {post : Int32 → S → Prop} {WW : S → va_W} (S9 : CallFix p m c cc nL s args Ts own) (hP : va_P D cl w0 H) (hD : va_D A0 w0) (hK : va_K D cl tys s) (hS : va_S A0 H0 H locs) (hA : ∀ q, H0.size ≤ q → A0 q)
    (isC isR isK : List Nat) (hC : isC.map (fun i => w0[i]?) = wc.map some) (hC2 : isC.filterMap (fun i => w0[i]?) = wc) (hR : isR.map (fun i => w0[i]?) = wr.map some) (hn : va_nd isR = true) (hnc : va_nd isC = true) (hdis : ∀ i ∈ isR, i ∉ isC) (hKs : isK.filterMap (fun i => tys[i]?) = tys')
    (hM : Met l y ws rm (va_Pc As (cc_P D cl wc tys' H.size)) (va_Qi post (fun u t => cc_B D cl tys' (va_A wc H.size) (WW u) t) (va_A wc H.size)) mc ms (va_A wc H.size))
    (cw : CallB R s args own index y bytes maxL ret ws rm mc ms n ∧ (Cond.static y).before args s = true)
    (hn2 : As.length = n) (hsize : ls.size = nL) (hst : st0 = As.reverse ++ rest) (hW : (rest.map fun v => v.category).sum ≤ 8) (hdg : decode cc pc = .ok (.invokestatic index, 3)) (hf : cells + mc ≤ R.cells ∧ slots + ms ≤ R.slots)
    (kk : ∀ (r : Int32) (u : S) (H1 : Heap) (locs1 : List Loc), post r u → va_P D cl (wr ++ WW u) H1 → va_D A0 (wr ++ WW u) → va_S A0 H0 H1 locs1 → W p l e R s m args below meth c H1 locs1 (cells + mc) (slots + ms) Q (F0 m (pc + 3) ls (.int r :: rest))) :
    W p l e R s m args below meth c H locs cells slots Q (F0 m pc ls st0) := by
  have hPc := hP.sub (ws' := wc) isC hC2
  have hDc := hD.sub (ws' := wc) isC hnc hC
  have hKc := hK.sub (tys' := tys') isK hKs
  have hFc := va_free (wc := wc) hD hS hA isC hC
  refine va_calli (va_runS (As := As) (rest := rest) S9 hM cw ⟨cc_blind, cc_pre hPc hKc hDc⟩ rfl hn2 hsize hst (lv_room hW) hdg hf) hS (fun q _ h => hFc q h) hFc (fun r u t H1 locs1 ht hvm hw hB hz1 hk1 hS1 => ?_)
  obtain ⟨hP1, hK1, hD1⟩ := hB
  rw [ht] at hP1
  obtain ⟨hP2, hD2⟩ := va_join (wr := wr) (w1 := WW u) hP hD isC isR hC hR hn hdis hk1 hFc hP1 hD1
  exact kk r u H1 locs1 hw hP2 hD2 hS1
/-- a static method without an answer -/
theorem cc_Sv {S : Type} {post : S → Prop} {WW : S → va_W} (S9 : CallFix p m c cc nL s args Ts own) (hP : va_P D cl w0 H) (hD : va_D A0 w0) (hK : va_K D cl tys s) (hS : va_S A0 H0 H locs) (hA : ∀ q, H0.size ≤ q → A0 q)
    (isC isR isK : List Nat) (hC : isC.map (fun i => w0[i]?) = wc.map some) (hC2 : isC.filterMap (fun i => w0[i]?) = wc) (hR : isR.map (fun i => w0[i]?) = wr.map some) (hn : va_nd isR = true) (hnc : va_nd isC = true) (hdis : ∀ i ∈ isR, i ∉ isC) (hKs : isK.filterMap (fun i => tys[i]?) = tys')
    (hM : Met l y ws rm (va_Pc As (cc_P D cl wc tys' H.size)) (va_Qv post (fun u t => cc_B D cl tys' (va_A wc H.size) (WW u) t) (va_A wc H.size)) mc ms (va_A wc H.size))
    (cw : CallB R s args own index y bytes maxL ret ws rm mc ms n ∧ (Cond.static y).before args s = true)
    (hn2 : As.length = n) (hsize : ls.size = nL) (hst : st0 = As.reverse ++ rest) (hW : (rest.map fun v => v.category).sum ≤ 8) (hdg : decode cc pc = .ok (.invokestatic index, 3)) (hf : cells + mc ≤ R.cells ∧ slots + ms ≤ R.slots)
    (kk : ∀ (u : S) (H1 : Heap) (locs1 : List Loc), post u → va_P D cl (wr ++ WW u) H1 → va_D A0 (wr ++ WW u) → va_S A0 H0 H1 locs1 → W p l e R s m args below meth c H1 locs1 (cells + mc) (slots + ms) Q (F0 m (pc + 3) ls rest)) :
    W p l e R s m args below meth c H locs cells slots Q (F0 m pc ls st0) := by
  have hPc := hP.sub (ws' := wc) isC hC2
  have hDc := hD.sub (ws' := wc) isC hnc hC
  have hKc := hK.sub (tys' := tys') isK hKs
  have hFc := va_free (wc := wc) hD hS hA isC hC
  refine va_callv (va_runS (As := As) (rest := rest) S9 hM cw ⟨cc_blind, cc_pre hPc hKc hDc⟩ rfl hn2 hsize hst (lv_room hW) hdg hf) hS (fun q _ h => hFc q h) hFc (fun u t H1 locs1 ht hvm hw hB hz1 hk1 hS1 => ?_)
  obtain ⟨hP1, hK1, hD1⟩ := hB
  rw [ht] at hP1
  obtain ⟨hP2, hD2⟩ := va_join (wr := wr) (w1 := WW u) hP hD isC isR hC hR hn hdis hk1 hFc hP1 hD1
  exact kk u H1 locs1 hw hP2 hD2 hS1
/-- the frame's goal by a name, so that a row of a walk may be proved apart -/
theorem cc_gen {g : JFrame} (h : ∀ G : Heap → List Loc → JFrame → Prop, G = (fun H locs g => W p l e R s m args below meth c H locs cells slots Q g) → G H locs g) : W p l e R s m args below meth c H locs cells slots Q g := h _ rfl
end CC
section CD
variable {p : Program} {l : Launch} {e : Env} {R : Room} {s : State} {m : MethodId} {args : Array Value} {below : List Frame} {meth : Method} {c : Code} {H H0 : Heap} {locs : List Loc} {cells slots : Nat} {Q : State → Prop} {D : va_G} {cl : List vw_C} {A : Nat → Prop} {ws : va_W}
/-- the heap by a name: a loop's head -/
theorem cc_from {g : JFrame} (hP : va_P D cl ws H) (hD : va_D A ws) (hS : va_S A H0 H locs) (k : ∀ (H1 : Heap) (locs1 : List Loc), va_P D cl ws H1 → va_D A ws → va_S A H0 H1 locs1 → W p l e R s m args below meth c H1 locs1 cells slots Q g) : W p l e R s m args below meth c H locs cells slots Q g := k H locs hP hD hS
end CD
end
section
/-! THROWS: what a throw needs of the start (zThr), contracts over it (cx_P), calls of methods that may throw -/
def zStr (U : State) : Prop := ∀ q ∈ zTexts, ∃ a : Nat, vk_R q.1 q.2.1 q.2.2 a U
def zThr (A : Nat → Prop) (U : State) (H : Heap) : Prop := zStr U ∧ (∀ w ∈ zBad, va_Nw w U) ∧ vx_Zq Bundle.tN "UNASSIGNED_STACK" Bundle.steD A U H ∧ vx_Zq Bundle.tN "SUPPRESSED_SENTINEL" Bundle.listD A U H
theorem zBad_warm {s U : State} (hW : s.WarmedH U.vm) : ∀ w ∈ zBad, va_Nw w s → va_Nw w U := by
  intro w hw h
  simp only [zBad, List.mem_cons, List.not_mem_nil, or_false] at hw
  rcases hw with rfl | rfl | rfl | rfl | rfl
  · exact va_Nw.warmC hW h
  · exact va_Nw.warmC hW h
  · exact va_Nw.warmD hW h
  · exact va_Nw.warmD hW h
  · exact va_Nw.warmD hW h
theorem zThr.pass {A A' : Nat → Prop} {s U : State} {H : Heap} {locs : List Loc} (h : zThr A s s.heap) (hS : va_S A s.heap H locs) (hAA : ∀ q, A' q → A q) (hW : s.WarmedH U.vm) (hU : U.heap = H) : zThr A' U U.heap := by
  obtain ⟨h1, hb, h2, h3⟩ := h
  refine ⟨fun q hq => ?_, fun w hw => zBad_warm hW w hw (hb w hw), ?_, ?_⟩
  · obtain ⟨a, ha⟩ := h1 q hq
    exact ⟨a, vk_R.warm hW ha⟩
  · rw [hU]
    exact vx_Zq.moved hW.alike ((vx_Zq.kept h2 (fun a x y => hS.2.1 a x y)).narrow hAA)
  · rw [hU]
    exact vx_Zq.moved hW.alike ((vx_Zq.kept h3 (fun a x y => hS.2.1 a x y)).narrow hAA)
abbrev cx_P (D : va_G) (cl : List vw_C) (W : va_W) (tys : List (ClassId × FieldType)) (sz : Nat) (U : State) : Prop := (U.heap.size = sz ∧ va_P D cl W U.heap ∧ va_K D cl tys U ∧ va_D (fun _ => True) W) ∧ zThr (va_A W sz) U U.heap
abbrev cx_X (D : va_G) (cl : List vw_C) (tys : List (ClassId × FieldType)) (W : va_W) (A : Nat → Prop) (EX : String) (bad : Prop) : String → State → State → Prop := vx_X (fun _ : Unit => bad) (fun E _ t => E = EX ∧ cc_B D cl tys A W t) A
theorem cx_blind {D : va_G} {cl : List vw_C} {W : va_W} {tys : List (ClassId × FieldType)} {sz : Nat} {av : List Value} : FrameBlind (va_Pc av (cx_P D cl W tys sz)) := fun a U g mk q => by
  obtain ⟨q0, ⟨q1, qP, qK, qD⟩, q2, q5, q3, q4⟩ := q
  refine ⟨q0, ⟨q1, qP, va_K.moved (u := U) (U := U.calling g mk a) (Vm.Alike.refl U.vm) qK, qD⟩, fun x hx => ?_, fun w hw => va_Nw.same (u := U) (U := U.calling g mk a) (zBad_on w hw) rfl (q5 w hw), vx_Zq.moved (u := U) (U := U.calling g mk a) (Vm.Alike.refl U.vm) q3, vx_Zq.moved (u := U) (U := U.calling g mk a) (Vm.Alike.refl U.vm) q4⟩
  obtain ⟨b, hb⟩ := q2 x hx
  exact ⟨b, vk_R.same (u := U) (U := U.calling g mk a) rfl hb⟩
theorem cx_pre {D : va_G} {cl : List vw_C} {W : va_W} {tys : List (ClassId × FieldType)} {av : List Value} {s : State} {H : Heap} {A A0 : Nat → Prop} {locs : List Loc} (hP : va_P D cl W H) (hK : va_K D cl tys s) (hD : va_D A W) (hZ : zThr A0 s s.heap) (hS : va_S A0 s.heap H locs) (hF : ∀ q, va_A W H.size q → A0 q) : ∀ U : State, U.heap = H → s.WarmedH U.vm → va_Pc av (cx_P D cl W tys H.size) av.toArray U :=
  fun U hU hW => ⟨rfl, ⟨by rw [hU], by rw [hU]; exact hP, va_K.moved hW.alike hK, hD.weaken (fun _ _ _ _ => trivial)⟩, hZ.pass hS hF hW hU⟩
section CX
variable {p : Program} {l : Launch} {e : Env} {R : Room} {s : State} {m : MethodId} {args : Array Value} {below : List Frame} {meth : Method} {c : Code} {H : Heap} {locs : List Loc} {cells slots : Nat} {Q : State → Prop}
variable {y : MethodName} {bytes cc : ByteArray} {maxL nL mc ms n index : Nat} {ret : Option FieldType} {ws : List Cond} {rm : Room} {Ts : List Cond} {own C : String} {b : Addr} {As rest st0 : List Value} {pc : Nat} {ls : Array Slot}
variable {D : va_G} {cl : List vw_C} {A0 : Nat → Prop} {w0 wc wr : va_W} {tys tys' : List (ClassId × FieldType)} {fs : List Value} {q : vw_C}
/-- an instance method that answers an int, or throws and leaves its cells as they were -/
theorem cx_Vi {S : Type} {post : Int32 → S → Prop} {WW : S → va_W} {EX : String} {bad : Prop} (S9 : CallFix p m c cc nL s args Ts own) (hP : va_P D cl w0 H) (hD : va_D A0 w0) (hK : va_K D cl tys s) (hS : va_S A0 s.heap H locs) (hA : ∀ q, s.heap.size ≤ q → A0 q) (hZ : zThr A0 s s.heap)
    (isC isR isK : List Nat) (hC : isC.map (fun i => w0[i]?) = wc.map some) (hC2 : isC.filterMap (fun i => w0[i]?) = wc) (hR : isR.map (fun i => w0[i]?) = wr.map some) (hn : va_nd isR = true) (hnc : va_nd isC = true) (hdis : ∀ i ∈ isR, i ∉ isC) (hKs : isK.filterMap (fun i => tys[i]?) = tys')
    (hM : vx_Met l y ws rm (va_Pc (.ref b :: As) (cx_P D cl wc tys' H.size)) (va_Qi post (fun u t => cc_B D cl tys' (va_A wc H.size) (WW u) t) (va_A wc H.size)) (cx_X D cl tys' wc (va_A wc H.size) EX bad) mc ms (va_A wc H.size))
    (cw : CallW R s args own C index y bytes maxL ret ws rm mc ms n) (q0 ci : Nat) (hc : cl[ci]? = some q) (hq : q.1 = C) (he : wc[q0]? = some (b, .inr (ci, fs)))
    (hn2 : As.length = n) (hsize : ls.size = nL) (hst : st0 = As.reverse ++ .ref b :: rest) (hW : (rest.map fun v => v.category).sum ≤ 8) (hdg : decode cc pc = .ok (.invokevirtual index, 3)) (hf : cells + mc ≤ R.cells ∧ slots + ms ≤ R.slots)
    (kx : ∀ (ce : Cell) (q9 : Addr) (H1 : Heap) (locs1 : List Loc), bad → va_P D cl (wr ++ wc) H1 → va_D A0 (wr ++ wc) → va_S A0 s.heap H1 locs1 → H1[q9]? = some ce → ce.vm = .none → s.vm.findClass EX = some ce.cls → vx_W p l e R s m args below meth c H1 locs1 (cells + mc) (slots + ms) Q (F0 m pc ls rest) q9)
    (kk : ∀ (r : Int32) (u : S) (H1 : Heap) (locs1 : List Loc), post r u → va_P D cl (wr ++ WW u) H1 → va_D A0 (wr ++ WW u) → va_S A0 s.heap H1 locs1 → W p l e R s m args below meth c H1 locs1 (cells + mc) (slots + ms) Q (F0 m (pc + 3) ls (.int r :: rest))) :
    W p l e R s m args below meth c H locs cells slots Q (F0 m pc ls st0) := by
  have hPc := hP.sub (ws' := wc) isC hC2
  have hDc := hD.sub (ws' := wc) isC hnc hC
  have hKc := hK.sub (tys' := tys') isK hKs
  have hFc := va_free (wc := wc) hD hS hA isC hC
  have hrec := va_recv hKc hPc hc he
  rw [hq] at hrec
  refine vx_calli (vx_runV (As := As) (rest := rest) S9 hM cw ⟨cx_blind, hrec, cx_pre hPc hKc hDc hZ hS hFc⟩ rfl hn2 hsize hst (lv_room hW) hdg hf) hS (fun q _ h => hFc q h) hFc (fun q _ h => hFc q h) (fun E ce q9 u t H1 locs1 ht hvm hw hB hz1 hk1 hS1 h1 h2 h3 => ?_) (fun r u t H1 locs1 ht hvm hw hB hz1 hk1 hS1 => ?_)
  · obtain ⟨rfl, hP1, hK1, hD1⟩ := hB
    rw [ht] at hP1
    obtain ⟨hP2, hD2⟩ := va_join (wr := wr) (w1 := wc) hP hD isC isR hC hR hn hdis hk1 hFc hP1 hD1
    exact kx ce q9 H1 locs1 hw hP2 hD2 hS1 h1 h2 h3
  · obtain ⟨hP1, hK1, hD1⟩ := hB
    rw [ht] at hP1
    obtain ⟨hP2, hD2⟩ := va_join (wr := wr) (w1 := WW u) hP hD isC isR hC hR hn hdis hk1 hFc hP1 hD1
    exact kk r u H1 locs1 hw hP2 hD2 hS1
/-- an instance method without an answer, that may throw -/
theorem cx_Vv {S : Type} {post : S → Prop} {WW : S → va_W} {EX : String} {bad : Prop} (S9 : CallFix p m c cc nL s args Ts own) (hP : va_P D cl w0 H) (hD : va_D A0 w0) (hK : va_K D cl tys s) (hS : va_S A0 s.heap H locs) (hA : ∀ q, s.heap.size ≤ q → A0 q) (hZ : zThr A0 s s.heap)
    (isC isR isK : List Nat) (hC : isC.map (fun i => w0[i]?) = wc.map some) (hC2 : isC.filterMap (fun i => w0[i]?) = wc) (hR : isR.map (fun i => w0[i]?) = wr.map some) (hn : va_nd isR = true) (hnc : va_nd isC = true) (hdis : ∀ i ∈ isR, i ∉ isC) (hKs : isK.filterMap (fun i => tys[i]?) = tys')
    (hM : vx_Met l y ws rm (va_Pc (.ref b :: As) (cx_P D cl wc tys' H.size)) (va_Qv post (fun u t => cc_B D cl tys' (va_A wc H.size) (WW u) t) (va_A wc H.size)) (cx_X D cl tys' wc (va_A wc H.size) EX bad) mc ms (va_A wc H.size))
    (cw : CallW R s args own C index y bytes maxL ret ws rm mc ms n) (q0 ci : Nat) (hc : cl[ci]? = some q) (hq : q.1 = C) (he : wc[q0]? = some (b, .inr (ci, fs)))
    (hn2 : As.length = n) (hsize : ls.size = nL) (hst : st0 = As.reverse ++ .ref b :: rest) (hW : (rest.map fun v => v.category).sum ≤ 8) (hdg : decode cc pc = .ok (.invokevirtual index, 3)) (hf : cells + mc ≤ R.cells ∧ slots + ms ≤ R.slots)
    (kx : ∀ (ce : Cell) (q9 : Addr) (H1 : Heap) (locs1 : List Loc), bad → va_P D cl (wr ++ wc) H1 → va_D A0 (wr ++ wc) → va_S A0 s.heap H1 locs1 → H1[q9]? = some ce → ce.vm = .none → s.vm.findClass EX = some ce.cls → vx_W p l e R s m args below meth c H1 locs1 (cells + mc) (slots + ms) Q (F0 m pc ls rest) q9)
    (kk : ∀ (u : S) (H1 : Heap) (locs1 : List Loc), post u → va_P D cl (wr ++ WW u) H1 → va_D A0 (wr ++ WW u) → va_S A0 s.heap H1 locs1 → W p l e R s m args below meth c H1 locs1 (cells + mc) (slots + ms) Q (F0 m (pc + 3) ls rest)) :
    W p l e R s m args below meth c H locs cells slots Q (F0 m pc ls st0) := by
  have hPc := hP.sub (ws' := wc) isC hC2
  have hDc := hD.sub (ws' := wc) isC hnc hC
  have hKc := hK.sub (tys' := tys') isK hKs
  have hFc := va_free (wc := wc) hD hS hA isC hC
  have hrec := va_recv hKc hPc hc he
  rw [hq] at hrec
  refine vx_callv (vx_runV (As := As) (rest := rest) S9 hM cw ⟨cx_blind, hrec, cx_pre hPc hKc hDc hZ hS hFc⟩ rfl hn2 hsize hst (lv_room hW) hdg hf) hS (fun q _ h => hFc q h) hFc (fun q _ h => hFc q h) (fun E ce q9 u t H1 locs1 ht hvm hw hB hz1 hk1 hS1 h1 h2 h3 => ?_) (fun u t H1 locs1 ht hvm hw hB hz1 hk1 hS1 => ?_)
  · obtain ⟨rfl, hP1, hK1, hD1⟩ := hB
    rw [ht] at hP1
    obtain ⟨hP2, hD2⟩ := va_join (wr := wr) (w1 := wc) hP hD isC isR hC hR hn hdis hk1 hFc hP1 hD1
    exact kx ce q9 H1 locs1 hw hP2 hD2 hS1 h1 h2 h3
  · obtain ⟨hP1, hK1, hD1⟩ := hB
    rw [ht] at hP1
    obtain ⟨hP2, hD2⟩ := va_join (wr := wr) (w1 := WW u) hP hD isC isR hC hR hn hdis hk1 hFc hP1 hD1
    exact kk u H1 locs1 hw hP2 hD2 hS1
end CX
end
section
set_option maxHeartbeats 4000000 in
set_option maxRecDepth 100000 in
/-- Arrays.fill(a, x): every place holds x -/
theorem k_fill (l : Launch) (dC : Nat → ClassId) (dI : Nat → Nat → Nat) (h0 : Nat) (cA : ClassId) (sz : Nat) (N : Nat) (g : Nat → Int32) (x : Int32) (hN : N < 2 ^ 31) : Met l y_fill ws_fill ({ frames := 0, cells := 0, slots := 0, locals := 0 }) (va_Pc [.ref h0, .int x] (cc_P (dC, dI) vwCl ([(h0, .inl (cA, N, .inl g))] : va_W) [(cA, .int)] sz)) (va_Qv (S := Nat → Int32) (fun u : Nat → Int32 => ∀ j, j < N → u j = x) (fun u t => cc_B (dC, dI) vwCl [(cA, .int)] (va_A ([(h0, .inl (cA, N, .inl g))] : va_W) sz) ((fun u : Nat → Int32 => ([(h0, .inl (cA, N, .inl u))] : va_W)) u) t) (va_A ([(h0, .inl (cA, N, .inl g))] : va_W) sz)) 0 0 (va_A ([(h0, .inl (cA, N, .inl g))] : va_W) sz) := by
  refine Met.ofW (cc := c_fill) (maxL := 4) (ret := none) (by decide) rfl ?_
  intro p e s m args below meth c s₁ B hml hv
  obtain ⟨rfl, hsz, hP, hK, hD0⟩ := hv
  have hx := B.exec
  have hb := B.bytes
  have hr := B.returns
  have hts : ∀ w ∈ zAll, w.before _ s = true := fun w h => atoms_spec (ws := ws_fill) B.pre w (List.mem_cons_of_mem _ h)
  have hown : s.vm.findClass RA = some m.cls := findClass_of_methodNamed B.named
  have hlocks := B.notSynchronized
  subst hsz
  have hD := hD0.self (sz := s.heap.size)
  generalize hAe : va_A ([(h0, .inl (cA, N, .inl g))] : va_W) s.heap.size = A at hD ⊢
  have hA : ∀ q : Nat, s.heap.size ≤ q → A q := fun q h => by rw [← hAe]; exact Or.inr h
  have hS : va_S A s.heap s.heap [] := va_S.rf
  replace hP : va_P (dC, dI) vwCl [(h0, .inl (cA, N, .inl g))] s.heap := hP
  replace hD : va_D A [(h0, .inl (cA, N, .inl g))] := hD
  have hl := lv_entry ([.ref h0, .int x]) (n := 4) (Nat.le_of_ble_eq_true rfl)
  rw [lg_entry_eq]
  generalize (lg_sl ([.ref h0, .int x]) ++ List.replicate (4 - (lg_sl ([.ref h0, .int x])).length) Slot.unset).toArray = ls at hl ⊢
  replace hl : lv_has ls 4 [(0, .ref h0), (1, .int x)] := hl
  refine lv_iconst (v := nI 0) hx hb d_fill_0 (by decide) ?_
  refine lv_istore_n (lv' := [(2, .int (nI 0)), (0, .ref h0), (1, .int x)]) hx hb d_fill_1 rfl hl (by decide) rfl (fun ls hl => ?_)
  refine lv_aload_n hx hb d_fill_2 rfl (lv_at hl 1 rfl) ?_
  refine va_alen (v := nI N) hx hb hK hP 0 0 rfl rfl rfl d_fill_3 ?_
  refine lv_istore_n (lv' := [(3, .int (nI N)), (2, .int (nI 0)), (0, .ref h0), (1, .int x)]) hx hb d_fill_4 rfl hl (by decide) rfl (fun ls hl => ?_)
  refine cc_from hP hD hS (fun H locs hP hD hS => ?_)
  obtain ⟨i, e_i⟩ : ∃ i : Nat, i = 0 := ⟨_, rfl⟩
  obtain ⟨f, e_f⟩ : ∃ f : Nat → Int32, f = g := ⟨_, rfl⟩
  replace hl : lv_has ls 4 [(0, .ref h0), (1, .int x), (2, .int (nI i)), (3, .int (nI N))] := by (subst e_i; subst e_f; exact lv_sub hl [2, 3, 1, 0] rfl)
  replace hP : va_P (dC, dI) vwCl [(h0, .inl (cA, N, .inl f))] H := by (subst e_i; subst e_f; exact hP)
  replace hD : va_D A [(h0, .inl (cA, N, .inl f))] := by (subst e_i; subst e_f; exact hD)
  have hi : i ≤ N := by (subst e_i; subst e_f; exact Nat.zero_le _)
  have hv : ∀ j, j < i → f j = x := by (subst e_i; subst e_f; exact fun j h => absurd h (Nat.not_lt_zero _))
  clear e_i e_f
  obtain ⟨f9, hf9⟩ : ∃ f9 : Nat, N - i < f9 := ⟨_, Nat.lt_succ_self _⟩
  induction f9 generalizing ls H locs i f with
  | zero => exact absurd hf9 (Nat.not_lt_zero _)
  | succ f9 ih =>
    refine lv_iload_n hx hb d_fill_5 rfl (lv_at hl 2 rfl) ?_
    refine lv_iload_n hx hb d_fill_6 rfl (lv_at hl 3 rfl) ?_
    refine lv_icmp_ge (tgt := 20) hx hb d_fill_7 (by decide) (fun c1 => ?_) (fun c1 => ?_)
    · replace c1 : N ≤ i := (nI_leI (a := N) (b := i) (by omega) (by omega)).mp c1
      exact W.vret hx hb hr (fun t9 ht9 hW9 => ⟨⟨f, rfl, fun j hj => hv j (by omega), by rw [ht9]; exact hP, va_K.moved hW9.alike hK, hD⟩, hS.F ht9⟩) hS.2.2 d_fill_20
    · replace c1 : ¬ (N ≤ i) := fun h9 => c1 ((nI_leI (a := N) (b := i) (by omega) (by omega)).mpr h9)
      have hlt : i < N := by omega
      have hv2 : ∀ j, j < i + 1 → upd f i x j = x := fun j hj => by
        by_cases q : j = i
        · rw [q, pk_us]
        · rw [pk_un q]; exact hv j (by omega)
      refine lv_aload_n hx hb d_fill_10 rfl (lv_at hl 0 rfl) ?_
      refine lv_iload_n hx hb d_fill_11 rfl (lv_at hl 2 rfl) ?_
      refine lv_iload_n hx hb d_fill_12 rfl (lv_at hl 1 rfl) ?_
      refine va_iast hx hb hK hP hD hS 0 0 rfl rfl (vp_in_nI hlt hN) d_fill_13 (fun H locs hP hD hS => ?_)
      rw [nI_clamp (by omega)] at hP hD
      replace hP : va_P (dC, dI) vwCl [(h0, .inl (cA, N, .inl (upd f i x)))] H := hP
      replace hD : va_D A [(h0, .inl (cA, N, .inl (upd f i x)))] := hD
      refine lv_iinc (v := nI (i + 1)) (lv' := [(2, .int (nI (i + 1))), (0, .ref h0), (1, .int x), (3, .int (nI N))]) hx hb d_fill_14 hl (k := 2) rfl (nI_1 _) (by decide) rfl (fun ls hl => ?_)
      refine lv_goto (tgt := 5) hx hb d_fill_17 (by decide) ?_
      apply ih (ls := ls) (H := H) (locs := locs) (i := i + 1) (f := upd f i x) <;> first | assumption | exact lv_sub hl [1, 2, 0, 3] rfl | omega
set_option maxHeartbeats 4000000 in
set_option maxRecDepth 100000 in
/-- Integer.numberOfLeadingZeros(x), t the highest set bit -/
theorem k_nlz (l : Launch) (dC : Nat → ClassId) (dI : Nat → Nat → Nat)  (sz : Nat) (x : Int32) (t : Nat) (ht : t < 32) (g1 : bt x t = true) (g2 : ∀ k, t < k → k < 32 → bt x k = false) : Met l y_nlz ws_nlz ({ frames := 0, cells := 0, slots := 0, locals := 0 }) (va_Pc [.int x] (cc_P (dC, dI) vwCl ([] : va_W) [] sz)) (va_Qi (S := Unit) (fun (r : Int32) (_ : Unit) => r = nI (31 - t)) (fun u t => cc_B (dC, dI) vwCl [] (va_A ([] : va_W) sz) ((fun _ : Unit => ([] : va_W)) u) t) (va_A ([] : va_W) sz)) 0 0 (va_A ([] : va_W) sz) := by
  refine Met.ofW (cc := c_nlz) (maxL := 2) (ret := (some .int)) (by decide) rfl ?_
  intro p e s m args below meth c s₁ B hml hv
  obtain ⟨rfl, hsz, hP, hK, hD0⟩ := hv
  have hx := B.exec
  have hb := B.bytes
  have hr := B.returns
  have hts : ∀ w ∈ zAll, w.before _ s = true := fun w h => atoms_spec (ws := ws_nlz) B.pre w (List.mem_cons_of_mem _ h)
  have hown : s.vm.findClass RI = some m.cls := findClass_of_methodNamed B.named
  have hlocks := B.notSynchronized
  subst hsz
  have hD := hD0.self (sz := s.heap.size)
  generalize hAe : va_A ([] : va_W) s.heap.size = A at hD ⊢
  have hA : ∀ q : Nat, s.heap.size ≤ q → A q := fun q h => by rw [← hAe]; exact Or.inr h
  have hS : va_S A s.heap s.heap [] := va_S.rf
  replace hP : va_P (dC, dI) vwCl [] s.heap := hP
  replace hD : va_D A [] := hD
  have hl := lv_entry ([.int x]) (n := 2) (Nat.le_of_ble_eq_true rfl)
  rw [lg_entry_eq]
  generalize (lg_sl ([.int x]) ++ List.replicate (2 - (lg_sl ([.int x])).length) Slot.unset).toArray = ls at hl ⊢
  replace hl : lv_has ls 2 [(0, .int x)] := hl
  have a1 := z_ge g1
  have a2 := z_lt g2
  have a3 := x.toBitVec.isLt
  have ex := z_num x
  generalize x.toBitVec.toNat = v at a1 a2 a3 ex
  refine lv_iload_n hx hb d_nlz_0 rfl (lv_at hl 0 rfl) ?_
  refine lv_if_gt (tgt := 15) hx hb d_nlz_1 (by decide) (fun c1 => ?_) (fun c1 => ?_)
  · have ht2 : t < 31 := z_nlz1 ht ex a1 c1 a3
    have hv : v < 2147483648 := z_lt31 ht2 a2
    have hv0 : 1 ≤ v := Nat.le_trans (z_p1 t) a1
    subst ex
    refine lv_bipush (v := nI 31) hx hb d_nlz_15 (by decide) ?_
    refine lv_istore_n (lv' := [(1, .int (nI 31)), (0, .int (nI v))]) hx hb d_nlz_17 rfl hl (by decide) rfl (fun ls hl => ?_)
    refine lv_iload_n hx hb d_nlz_18 rfl (lv_at hl 1 rfl) ?_
    refine lv_ldcw (v := 65536) hx hb hown (hts _ wk_264) d_nlz_19 ?_
    refine lv_topi (nm_r (show _ = nI 65536 from by decide) ?_)
    refine lv_icmp_lt (tgt := 33) hx hb d_nlz_22 (by decide) (fun c3 => ?_) (fun c3 => ?_)
    · replace c3 : v < 65536 := (nI_ltI (a := v) (b := 65536) (by omega) (by omega)).mp c3
      refine lv_iload_n hx hb d_nlz_33 rfl (lv_at hl 1 rfl) ?_
      refine lv_sipush (v := nI 256) hx hb d_nlz_34 (by decide) ?_
      refine lv_icmp_lt (tgt := 48) hx hb d_nlz_37 (by decide) (fun c4 => ?_) (fun c4 => ?_)
      · replace c4 : v < 256 := (nI_ltI (a := v) (b := 256) (by omega) (by omega)).mp c4
        refine lv_iload_n hx hb d_nlz_48 rfl (lv_at hl 1 rfl) ?_
        refine lv_bipush (v := nI 16) hx hb d_nlz_49 (by decide) ?_
        refine lv_icmp_lt (tgt := 61) hx hb d_nlz_51 (by decide) (fun c5 => ?_) (fun c5 => ?_)
        · replace c5 : v < 16 := (nI_ltI (a := v) (b := 16) (by omega) (by omega)).mp c5
          refine lv_iload_n hx hb d_nlz_61 rfl (lv_at hl 1 rfl) ?_
          refine lv_iconst (v := nI 4) hx hb d_nlz_62 (by decide) ?_
          refine lv_icmp_lt (tgt := 73) hx hb d_nlz_63 (by decide) (fun c6 => ?_) (fun c6 => ?_)
          · replace c6 : v < 4 := (nI_ltI (a := v) (b := 4) (by omega) (by omega)).mp c6
            refine lv_iload_n hx hb d_nlz_73 rfl (lv_at hl 0 rfl) ?_
            refine lv_iload_n hx hb d_nlz_74 rfl (lv_at hl 1 rfl) ?_
            refine lv_iconst (v := nI 1) hx hb d_nlz_75 (by decide) ?_
            refine lv_iushr (v := zu (nI v) (nI 1)) hx hb d_nlz_76 rfl ?_
            refine lv_topi (nm_r (show _ = nI (v / 2) from pk_ushrN (by omega) _ 1 (by decide)) ?_)
            refine lv_isub hx hb d_nlz_77 ?_
            refine lv_topi (nm_r (show _ = nI (31 - (v / 2)) from pk_sub (by omega)) ?_)
            exact W.iret (v := nI (31 - (v / 2))) hx hb hr (fun t9 ht9 hW9 => ⟨⟨nI (31 - (v / 2)), (), rfl, congrArg nI (by have z9 := z_leaf (s := 0) (q := 1) (by decide) a1 a2 (by omega) (by omega); omega), by rw [ht9]; exact hP, va_K.moved hW9.alike hK, hD⟩, hS.F ht9⟩) hS.2.2 d_nlz_78
          · replace c6 : ¬ (v < 4) := fun h9 => c6 ((nI_ltI (a := v) (b := 4) (by omega) (by omega)).mpr h9)
            refine lv_iinc (v := nI 29) (lv' := [(1, .int (nI 29)), (0, .int (nI v))]) hx hb d_nlz_66 hl (k := 0) rfl (by decide) (by decide) rfl (fun ls hl => ?_)
            refine lv_iload_n hx hb d_nlz_69 rfl (lv_at hl 1 rfl) ?_
            refine lv_iconst (v := nI 2) hx hb d_nlz_70 (by decide) ?_
            refine lv_iushr (v := zu (nI v) (nI 2)) hx hb d_nlz_71 rfl ?_
            refine lv_topi (nm_r (show _ = nI (v / 4) from pk_ushrN (by omega) _ 2 (by decide)) ?_)
            refine lv_istore_n (lv' := [(0, .int (nI (v / 4))), (1, .int (nI 29))]) hx hb d_nlz_72 rfl hl (by decide) rfl (fun ls hl => ?_)
            refine lv_iload_n hx hb d_nlz_73 rfl (lv_at hl 1 rfl) ?_
            refine lv_iload_n hx hb d_nlz_74 rfl (lv_at hl 0 rfl) ?_
            refine lv_iconst (v := nI 1) hx hb d_nlz_75 (by decide) ?_
            refine lv_iushr (v := zu (nI (v / 4)) (nI 1)) hx hb d_nlz_76 rfl ?_
            refine lv_topi (nm_r (show _ = nI ((v / 4) / 2) from pk_ushrN (by omega) _ 1 (by decide)) ?_)
            refine lv_isub hx hb d_nlz_77 ?_
            refine lv_topi (nm_r (show _ = nI (29 - ((v / 4) / 2)) from pk_sub (by omega)) ?_)
            exact W.iret (v := nI (29 - ((v / 4) / 2))) hx hb hr (fun t9 ht9 hW9 => ⟨⟨nI (29 - ((v / 4) / 2)), (), rfl, congrArg nI (by have z9 := z_leaf (s := 2) (q := 4) (by decide) a1 a2 (by omega) (by omega); omega), by rw [ht9]; exact hP, va_K.moved hW9.alike hK, hD⟩, hS.F ht9⟩) hS.2.2 d_nlz_78
        · replace c5 : ¬ (v < 16) := fun h9 => c5 ((nI_ltI (a := v) (b := 16) (by omega) (by omega)).mpr h9)
          refine lv_iinc (v := nI 27) (lv' := [(1, .int (nI 27)), (0, .int (nI v))]) hx hb d_nlz_54 hl (k := 0) rfl (by decide) (by decide) rfl (fun ls hl => ?_)
          refine lv_iload_n hx hb d_nlz_57 rfl (lv_at hl 1 rfl) ?_
          refine lv_iconst (v := nI 4) hx hb d_nlz_58 (by decide) ?_
          refine lv_iushr (v := zu (nI v) (nI 4)) hx hb d_nlz_59 rfl ?_
          refine lv_topi (nm_r (show _ = nI (v / 16) from pk_ushrN (by omega) _ 4 (by decide)) ?_)
          refine lv_istore_n (lv' := [(0, .int (nI (v / 16))), (1, .int (nI 27))]) hx hb d_nlz_60 rfl hl (by decide) rfl (fun ls hl => ?_)
          refine lv_iload_n hx hb d_nlz_61 rfl (lv_at hl 0 rfl) ?_
          refine lv_iconst (v := nI 4) hx hb d_nlz_62 (by decide) ?_
          refine lv_icmp_lt (tgt := 73) hx hb d_nlz_63 (by decide) (fun c6 => ?_) (fun c6 => ?_)
          · replace c6 : v / 16 < 4 := (nI_ltI (a := v / 16) (b := 4) (by omega) (by omega)).mp c6
            refine lv_iload_n hx hb d_nlz_73 rfl (lv_at hl 1 rfl) ?_
            refine lv_iload_n hx hb d_nlz_74 rfl (lv_at hl 0 rfl) ?_
            refine lv_iconst (v := nI 1) hx hb d_nlz_75 (by decide) ?_
            refine lv_iushr (v := zu (nI (v / 16)) (nI 1)) hx hb d_nlz_76 rfl ?_
            refine lv_topi (nm_r (show _ = nI ((v / 16) / 2) from pk_ushrN (by omega) _ 1 (by decide)) ?_)
            refine lv_isub hx hb d_nlz_77 ?_
            refine lv_topi (nm_r (show _ = nI (27 - ((v / 16) / 2)) from pk_sub (by omega)) ?_)
            exact W.iret (v := nI (27 - ((v / 16) / 2))) hx hb hr (fun t9 ht9 hW9 => ⟨⟨nI (27 - ((v / 16) / 2)), (), rfl, congrArg nI (by have z9 := z_leaf (s := 4) (q := 16) (by decide) a1 a2 (by omega) (by omega); omega), by rw [ht9]; exact hP, va_K.moved hW9.alike hK, hD⟩, hS.F ht9⟩) hS.2.2 d_nlz_78
          · replace c6 : ¬ (v / 16 < 4) := fun h9 => c6 ((nI_ltI (a := v / 16) (b := 4) (by omega) (by omega)).mpr h9)
            refine lv_iinc (v := nI 25) (lv' := [(1, .int (nI 25)), (0, .int (nI (v / 16)))]) hx hb d_nlz_66 hl (k := 1) rfl (by decide) (by decide) rfl (fun ls hl => ?_)
            refine lv_iload_n hx hb d_nlz_69 rfl (lv_at hl 1 rfl) ?_
            refine lv_iconst (v := nI 2) hx hb d_nlz_70 (by decide) ?_
            refine lv_iushr (v := zu (nI (v / 16)) (nI 2)) hx hb d_nlz_71 rfl ?_
            refine lv_topi (nm_r (show _ = nI ((v / 16) / 4) from pk_ushrN (by omega) _ 2 (by decide)) ?_)
            refine lv_istore_n (lv' := [(0, .int (nI ((v / 16) / 4))), (1, .int (nI 25))]) hx hb d_nlz_72 rfl hl (by decide) rfl (fun ls hl => ?_)
            refine lv_iload_n hx hb d_nlz_73 rfl (lv_at hl 1 rfl) ?_
            refine lv_iload_n hx hb d_nlz_74 rfl (lv_at hl 0 rfl) ?_
            refine lv_iconst (v := nI 1) hx hb d_nlz_75 (by decide) ?_
            refine lv_iushr (v := zu (nI ((v / 16) / 4)) (nI 1)) hx hb d_nlz_76 rfl ?_
            refine lv_topi (nm_r (show _ = nI (((v / 16) / 4) / 2) from pk_ushrN (by omega) _ 1 (by decide)) ?_)
            refine lv_isub hx hb d_nlz_77 ?_
            refine lv_topi (nm_r (show _ = nI (25 - (((v / 16) / 4) / 2)) from pk_sub (by omega)) ?_)
            exact W.iret (v := nI (25 - (((v / 16) / 4) / 2))) hx hb hr (fun t9 ht9 hW9 => ⟨⟨nI (25 - (((v / 16) / 4) / 2)), (), rfl, congrArg nI (by have z9 := z_leaf (s := 6) (q := 64) (by decide) a1 a2 (by omega) (by omega); omega), by rw [ht9]; exact hP, va_K.moved hW9.alike hK, hD⟩, hS.F ht9⟩) hS.2.2 d_nlz_78
      · replace c4 : ¬ (v < 256) := fun h9 => c4 ((nI_ltI (a := v) (b := 256) (by omega) (by omega)).mpr h9)
        refine lv_iinc (v := nI 23) (lv' := [(1, .int (nI 23)), (0, .int (nI v))]) hx hb d_nlz_40 hl (k := 0) rfl (by decide) (by decide) rfl (fun ls hl => ?_)
        refine lv_iload_n hx hb d_nlz_43 rfl (lv_at hl 1 rfl) ?_
        refine lv_bipush (v := nI 8) hx hb d_nlz_44 (by decide) ?_
        refine lv_iushr (v := zu (nI v) (nI 8)) hx hb d_nlz_46 rfl ?_
        refine lv_topi (nm_r (show _ = nI (v / 256) from pk_ushrN (by omega) _ 8 (by decide)) ?_)
        refine lv_istore_n (lv' := [(0, .int (nI (v / 256))), (1, .int (nI 23))]) hx hb d_nlz_47 rfl hl (by decide) rfl (fun ls hl => ?_)
        refine lv_iload_n hx hb d_nlz_48 rfl (lv_at hl 0 rfl) ?_
        refine lv_bipush (v := nI 16) hx hb d_nlz_49 (by decide) ?_
        refine lv_icmp_lt (tgt := 61) hx hb d_nlz_51 (by decide) (fun c5 => ?_) (fun c5 => ?_)
        · replace c5 : v / 256 < 16 := (nI_ltI (a := v / 256) (b := 16) (by omega) (by omega)).mp c5
          refine lv_iload_n hx hb d_nlz_61 rfl (lv_at hl 0 rfl) ?_
          refine lv_iconst (v := nI 4) hx hb d_nlz_62 (by decide) ?_
          refine lv_icmp_lt (tgt := 73) hx hb d_nlz_63 (by decide) (fun c6 => ?_) (fun c6 => ?_)
          · replace c6 : v / 256 < 4 := (nI_ltI (a := v / 256) (b := 4) (by omega) (by omega)).mp c6
            refine lv_iload_n hx hb d_nlz_73 rfl (lv_at hl 1 rfl) ?_
            refine lv_iload_n hx hb d_nlz_74 rfl (lv_at hl 0 rfl) ?_
            refine lv_iconst (v := nI 1) hx hb d_nlz_75 (by decide) ?_
            refine lv_iushr (v := zu (nI (v / 256)) (nI 1)) hx hb d_nlz_76 rfl ?_
            refine lv_topi (nm_r (show _ = nI ((v / 256) / 2) from pk_ushrN (by omega) _ 1 (by decide)) ?_)
            refine lv_isub hx hb d_nlz_77 ?_
            refine lv_topi (nm_r (show _ = nI (23 - ((v / 256) / 2)) from pk_sub (by omega)) ?_)
            exact W.iret (v := nI (23 - ((v / 256) / 2))) hx hb hr (fun t9 ht9 hW9 => ⟨⟨nI (23 - ((v / 256) / 2)), (), rfl, congrArg nI (by have z9 := z_leaf (s := 8) (q := 256) (by decide) a1 a2 (by omega) (by omega); omega), by rw [ht9]; exact hP, va_K.moved hW9.alike hK, hD⟩, hS.F ht9⟩) hS.2.2 d_nlz_78
          · replace c6 : ¬ (v / 256 < 4) := fun h9 => c6 ((nI_ltI (a := v / 256) (b := 4) (by omega) (by omega)).mpr h9)
            refine lv_iinc (v := nI 21) (lv' := [(1, .int (nI 21)), (0, .int (nI (v / 256)))]) hx hb d_nlz_66 hl (k := 1) rfl (by decide) (by decide) rfl (fun ls hl => ?_)
            refine lv_iload_n hx hb d_nlz_69 rfl (lv_at hl 1 rfl) ?_
            refine lv_iconst (v := nI 2) hx hb d_nlz_70 (by decide) ?_
            refine lv_iushr (v := zu (nI (v / 256)) (nI 2)) hx hb d_nlz_71 rfl ?_
            refine lv_topi (nm_r (show _ = nI ((v / 256) / 4) from pk_ushrN (by omega) _ 2 (by decide)) ?_)
            refine lv_istore_n (lv' := [(0, .int (nI ((v / 256) / 4))), (1, .int (nI 21))]) hx hb d_nlz_72 rfl hl (by decide) rfl (fun ls hl => ?_)
            refine lv_iload_n hx hb d_nlz_73 rfl (lv_at hl 1 rfl) ?_
            refine lv_iload_n hx hb d_nlz_74 rfl (lv_at hl 0 rfl) ?_
            refine lv_iconst (v := nI 1) hx hb d_nlz_75 (by decide) ?_
            refine lv_iushr (v := zu (nI ((v / 256) / 4)) (nI 1)) hx hb d_nlz_76 rfl ?_
            refine lv_topi (nm_r (show _ = nI (((v / 256) / 4) / 2) from pk_ushrN (by omega) _ 1 (by decide)) ?_)
            refine lv_isub hx hb d_nlz_77 ?_
            refine lv_topi (nm_r (show _ = nI (21 - (((v / 256) / 4) / 2)) from pk_sub (by omega)) ?_)
            exact W.iret (v := nI (21 - (((v / 256) / 4) / 2))) hx hb hr (fun t9 ht9 hW9 => ⟨⟨nI (21 - (((v / 256) / 4) / 2)), (), rfl, congrArg nI (by have z9 := z_leaf (s := 10) (q := 1024) (by decide) a1 a2 (by omega) (by omega); omega), by rw [ht9]; exact hP, va_K.moved hW9.alike hK, hD⟩, hS.F ht9⟩) hS.2.2 d_nlz_78
        · replace c5 : ¬ (v / 256 < 16) := fun h9 => c5 ((nI_ltI (a := v / 256) (b := 16) (by omega) (by omega)).mpr h9)
          refine lv_iinc (v := nI 19) (lv' := [(1, .int (nI 19)), (0, .int (nI (v / 256)))]) hx hb d_nlz_54 hl (k := 1) rfl (by decide) (by decide) rfl (fun ls hl => ?_)
          refine lv_iload_n hx hb d_nlz_57 rfl (lv_at hl 1 rfl) ?_
          refine lv_iconst (v := nI 4) hx hb d_nlz_58 (by decide) ?_
          refine lv_iushr (v := zu (nI (v / 256)) (nI 4)) hx hb d_nlz_59 rfl ?_
          refine lv_topi (nm_r (show _ = nI ((v / 256) / 16) from pk_ushrN (by omega) _ 4 (by decide)) ?_)
          refine lv_istore_n (lv' := [(0, .int (nI ((v / 256) / 16))), (1, .int (nI 19))]) hx hb d_nlz_60 rfl hl (by decide) rfl (fun ls hl => ?_)
          refine lv_iload_n hx hb d_nlz_61 rfl (lv_at hl 0 rfl) ?_
          refine lv_iconst (v := nI 4) hx hb d_nlz_62 (by decide) ?_
          refine lv_icmp_lt (tgt := 73) hx hb d_nlz_63 (by decide) (fun c6 => ?_) (fun c6 => ?_)
          · replace c6 : (v / 256) / 16 < 4 := (nI_ltI (a := (v / 256) / 16) (b := 4) (by omega) (by omega)).mp c6
            refine lv_iload_n hx hb d_nlz_73 rfl (lv_at hl 1 rfl) ?_
            refine lv_iload_n hx hb d_nlz_74 rfl (lv_at hl 0 rfl) ?_
            refine lv_iconst (v := nI 1) hx hb d_nlz_75 (by decide) ?_
            refine lv_iushr (v := zu (nI ((v / 256) / 16)) (nI 1)) hx hb d_nlz_76 rfl ?_
            refine lv_topi (nm_r (show _ = nI (((v / 256) / 16) / 2) from pk_ushrN (by omega) _ 1 (by decide)) ?_)
            refine lv_isub hx hb d_nlz_77 ?_
            refine lv_topi (nm_r (show _ = nI (19 - (((v / 256) / 16) / 2)) from pk_sub (by omega)) ?_)
            exact W.iret (v := nI (19 - (((v / 256) / 16) / 2))) hx hb hr (fun t9 ht9 hW9 => ⟨⟨nI (19 - (((v / 256) / 16) / 2)), (), rfl, congrArg nI (by have z9 := z_leaf (s := 12) (q := 4096) (by decide) a1 a2 (by omega) (by omega); omega), by rw [ht9]; exact hP, va_K.moved hW9.alike hK, hD⟩, hS.F ht9⟩) hS.2.2 d_nlz_78
          · replace c6 : ¬ ((v / 256) / 16 < 4) := fun h9 => c6 ((nI_ltI (a := (v / 256) / 16) (b := 4) (by omega) (by omega)).mpr h9)
            refine lv_iinc (v := nI 17) (lv' := [(1, .int (nI 17)), (0, .int (nI ((v / 256) / 16)))]) hx hb d_nlz_66 hl (k := 1) rfl (by decide) (by decide) rfl (fun ls hl => ?_)
            refine lv_iload_n hx hb d_nlz_69 rfl (lv_at hl 1 rfl) ?_
            refine lv_iconst (v := nI 2) hx hb d_nlz_70 (by decide) ?_
            refine lv_iushr (v := zu (nI ((v / 256) / 16)) (nI 2)) hx hb d_nlz_71 rfl ?_
            refine lv_topi (nm_r (show _ = nI (((v / 256) / 16) / 4) from pk_ushrN (by omega) _ 2 (by decide)) ?_)
            refine lv_istore_n (lv' := [(0, .int (nI (((v / 256) / 16) / 4))), (1, .int (nI 17))]) hx hb d_nlz_72 rfl hl (by decide) rfl (fun ls hl => ?_)
            refine lv_iload_n hx hb d_nlz_73 rfl (lv_at hl 1 rfl) ?_
            refine lv_iload_n hx hb d_nlz_74 rfl (lv_at hl 0 rfl) ?_
            refine lv_iconst (v := nI 1) hx hb d_nlz_75 (by decide) ?_
            refine lv_iushr (v := zu (nI (((v / 256) / 16) / 4)) (nI 1)) hx hb d_nlz_76 rfl ?_
            refine lv_topi (nm_r (show _ = nI ((((v / 256) / 16) / 4) / 2) from pk_ushrN (by omega) _ 1 (by decide)) ?_)
            refine lv_isub hx hb d_nlz_77 ?_
            refine lv_topi (nm_r (show _ = nI (17 - ((((v / 256) / 16) / 4) / 2)) from pk_sub (by omega)) ?_)
            exact W.iret (v := nI (17 - ((((v / 256) / 16) / 4) / 2))) hx hb hr (fun t9 ht9 hW9 => ⟨⟨nI (17 - ((((v / 256) / 16) / 4) / 2)), (), rfl, congrArg nI (by have z9 := z_leaf (s := 14) (q := 16384) (by decide) a1 a2 (by omega) (by omega); omega), by rw [ht9]; exact hP, va_K.moved hW9.alike hK, hD⟩, hS.F ht9⟩) hS.2.2 d_nlz_78
    · replace c3 : ¬ (v < 65536) := fun h9 => c3 ((nI_ltI (a := v) (b := 65536) (by omega) (by omega)).mpr h9)
      refine lv_iinc (v := nI 15) (lv' := [(1, .int (nI 15)), (0, .int (nI v))]) hx hb d_nlz_25 hl (k := 0) rfl (by decide) (by decide) rfl (fun ls hl => ?_)
      refine lv_iload_n hx hb d_nlz_28 rfl (lv_at hl 1 rfl) ?_
      refine lv_bipush (v := nI 16) hx hb d_nlz_29 (by decide) ?_
      refine lv_iushr (v := zu (nI v) (nI 16)) hx hb d_nlz_31 rfl ?_
      refine lv_topi (nm_r (show _ = nI (v / 65536) from pk_ushrN (by omega) _ 16 (by decide)) ?_)
      refine lv_istore_n (lv' := [(0, .int (nI (v / 65536))), (1, .int (nI 15))]) hx hb d_nlz_32 rfl hl (by decide) rfl (fun ls hl => ?_)
      refine lv_iload_n hx hb d_nlz_33 rfl (lv_at hl 0 rfl) ?_
      refine lv_sipush (v := nI 256) hx hb d_nlz_34 (by decide) ?_
      refine lv_icmp_lt (tgt := 48) hx hb d_nlz_37 (by decide) (fun c4 => ?_) (fun c4 => ?_)
      · replace c4 : v / 65536 < 256 := (nI_ltI (a := v / 65536) (b := 256) (by omega) (by omega)).mp c4
        refine lv_iload_n hx hb d_nlz_48 rfl (lv_at hl 0 rfl) ?_
        refine lv_bipush (v := nI 16) hx hb d_nlz_49 (by decide) ?_
        refine lv_icmp_lt (tgt := 61) hx hb d_nlz_51 (by decide) (fun c5 => ?_) (fun c5 => ?_)
        · replace c5 : v / 65536 < 16 := (nI_ltI (a := v / 65536) (b := 16) (by omega) (by omega)).mp c5
          refine lv_iload_n hx hb d_nlz_61 rfl (lv_at hl 0 rfl) ?_
          refine lv_iconst (v := nI 4) hx hb d_nlz_62 (by decide) ?_
          refine lv_icmp_lt (tgt := 73) hx hb d_nlz_63 (by decide) (fun c6 => ?_) (fun c6 => ?_)
          · replace c6 : v / 65536 < 4 := (nI_ltI (a := v / 65536) (b := 4) (by omega) (by omega)).mp c6
            refine lv_iload_n hx hb d_nlz_73 rfl (lv_at hl 1 rfl) ?_
            refine lv_iload_n hx hb d_nlz_74 rfl (lv_at hl 0 rfl) ?_
            refine lv_iconst (v := nI 1) hx hb d_nlz_75 (by decide) ?_
            refine lv_iushr (v := zu (nI (v / 65536)) (nI 1)) hx hb d_nlz_76 rfl ?_
            refine lv_topi (nm_r (show _ = nI ((v / 65536) / 2) from pk_ushrN (by omega) _ 1 (by decide)) ?_)
            refine lv_isub hx hb d_nlz_77 ?_
            refine lv_topi (nm_r (show _ = nI (15 - ((v / 65536) / 2)) from pk_sub (by omega)) ?_)
            exact W.iret (v := nI (15 - ((v / 65536) / 2))) hx hb hr (fun t9 ht9 hW9 => ⟨⟨nI (15 - ((v / 65536) / 2)), (), rfl, congrArg nI (by have z9 := z_leaf (s := 16) (q := 65536) (by decide) a1 a2 (by omega) (by omega); omega), by rw [ht9]; exact hP, va_K.moved hW9.alike hK, hD⟩, hS.F ht9⟩) hS.2.2 d_nlz_78
          · replace c6 : ¬ (v / 65536 < 4) := fun h9 => c6 ((nI_ltI (a := v / 65536) (b := 4) (by omega) (by omega)).mpr h9)
            refine lv_iinc (v := nI 13) (lv' := [(1, .int (nI 13)), (0, .int (nI (v / 65536)))]) hx hb d_nlz_66 hl (k := 1) rfl (by decide) (by decide) rfl (fun ls hl => ?_)
            refine lv_iload_n hx hb d_nlz_69 rfl (lv_at hl 1 rfl) ?_
            refine lv_iconst (v := nI 2) hx hb d_nlz_70 (by decide) ?_
            refine lv_iushr (v := zu (nI (v / 65536)) (nI 2)) hx hb d_nlz_71 rfl ?_
            refine lv_topi (nm_r (show _ = nI ((v / 65536) / 4) from pk_ushrN (by omega) _ 2 (by decide)) ?_)
            refine lv_istore_n (lv' := [(0, .int (nI ((v / 65536) / 4))), (1, .int (nI 13))]) hx hb d_nlz_72 rfl hl (by decide) rfl (fun ls hl => ?_)
            refine lv_iload_n hx hb d_nlz_73 rfl (lv_at hl 1 rfl) ?_
            refine lv_iload_n hx hb d_nlz_74 rfl (lv_at hl 0 rfl) ?_
            refine lv_iconst (v := nI 1) hx hb d_nlz_75 (by decide) ?_
            refine lv_iushr (v := zu (nI ((v / 65536) / 4)) (nI 1)) hx hb d_nlz_76 rfl ?_
            refine lv_topi (nm_r (show _ = nI (((v / 65536) / 4) / 2) from pk_ushrN (by omega) _ 1 (by decide)) ?_)
            refine lv_isub hx hb d_nlz_77 ?_
            refine lv_topi (nm_r (show _ = nI (13 - (((v / 65536) / 4) / 2)) from pk_sub (by omega)) ?_)
            exact W.iret (v := nI (13 - (((v / 65536) / 4) / 2))) hx hb hr (fun t9 ht9 hW9 => ⟨⟨nI (13 - (((v / 65536) / 4) / 2)), (), rfl, congrArg nI (by have z9 := z_leaf (s := 18) (q := 262144) (by decide) a1 a2 (by omega) (by omega); omega), by rw [ht9]; exact hP, va_K.moved hW9.alike hK, hD⟩, hS.F ht9⟩) hS.2.2 d_nlz_78
        · replace c5 : ¬ (v / 65536 < 16) := fun h9 => c5 ((nI_ltI (a := v / 65536) (b := 16) (by omega) (by omega)).mpr h9)
          refine lv_iinc (v := nI 11) (lv' := [(1, .int (nI 11)), (0, .int (nI (v / 65536)))]) hx hb d_nlz_54 hl (k := 1) rfl (by decide) (by decide) rfl (fun ls hl => ?_)
          refine lv_iload_n hx hb d_nlz_57 rfl (lv_at hl 1 rfl) ?_
          refine lv_iconst (v := nI 4) hx hb d_nlz_58 (by decide) ?_
          refine lv_iushr (v := zu (nI (v / 65536)) (nI 4)) hx hb d_nlz_59 rfl ?_
          refine lv_topi (nm_r (show _ = nI ((v / 65536) / 16) from pk_ushrN (by omega) _ 4 (by decide)) ?_)
          refine lv_istore_n (lv' := [(0, .int (nI ((v / 65536) / 16))), (1, .int (nI 11))]) hx hb d_nlz_60 rfl hl (by decide) rfl (fun ls hl => ?_)
          refine lv_iload_n hx hb d_nlz_61 rfl (lv_at hl 0 rfl) ?_
          refine lv_iconst (v := nI 4) hx hb d_nlz_62 (by decide) ?_
          refine lv_icmp_lt (tgt := 73) hx hb d_nlz_63 (by decide) (fun c6 => ?_) (fun c6 => ?_)
          · replace c6 : (v / 65536) / 16 < 4 := (nI_ltI (a := (v / 65536) / 16) (b := 4) (by omega) (by omega)).mp c6
            refine lv_iload_n hx hb d_nlz_73 rfl (lv_at hl 1 rfl) ?_
            refine lv_iload_n hx hb d_nlz_74 rfl (lv_at hl 0 rfl) ?_
            refine lv_iconst (v := nI 1) hx hb d_nlz_75 (by decide) ?_
            refine lv_iushr (v := zu (nI ((v / 65536) / 16)) (nI 1)) hx hb d_nlz_76 rfl ?_
            refine lv_topi (nm_r (show _ = nI (((v / 65536) / 16) / 2) from pk_ushrN (by omega) _ 1 (by decide)) ?_)
            refine lv_isub hx hb d_nlz_77 ?_
            refine lv_topi (nm_r (show _ = nI (11 - (((v / 65536) / 16) / 2)) from pk_sub (by omega)) ?_)
            exact W.iret (v := nI (11 - (((v / 65536) / 16) / 2))) hx hb hr (fun t9 ht9 hW9 => ⟨⟨nI (11 - (((v / 65536) / 16) / 2)), (), rfl, congrArg nI (by have z9 := z_leaf (s := 20) (q := 1048576) (by decide) a1 a2 (by omega) (by omega); omega), by rw [ht9]; exact hP, va_K.moved hW9.alike hK, hD⟩, hS.F ht9⟩) hS.2.2 d_nlz_78
          · replace c6 : ¬ ((v / 65536) / 16 < 4) := fun h9 => c6 ((nI_ltI (a := (v / 65536) / 16) (b := 4) (by omega) (by omega)).mpr h9)
            refine lv_iinc (v := nI 9) (lv' := [(1, .int (nI 9)), (0, .int (nI ((v / 65536) / 16)))]) hx hb d_nlz_66 hl (k := 1) rfl (by decide) (by decide) rfl (fun ls hl => ?_)
            refine lv_iload_n hx hb d_nlz_69 rfl (lv_at hl 1 rfl) ?_
            refine lv_iconst (v := nI 2) hx hb d_nlz_70 (by decide) ?_
            refine lv_iushr (v := zu (nI ((v / 65536) / 16)) (nI 2)) hx hb d_nlz_71 rfl ?_
            refine lv_topi (nm_r (show _ = nI (((v / 65536) / 16) / 4) from pk_ushrN (by omega) _ 2 (by decide)) ?_)
            refine lv_istore_n (lv' := [(0, .int (nI (((v / 65536) / 16) / 4))), (1, .int (nI 9))]) hx hb d_nlz_72 rfl hl (by decide) rfl (fun ls hl => ?_)
            refine lv_iload_n hx hb d_nlz_73 rfl (lv_at hl 1 rfl) ?_
            refine lv_iload_n hx hb d_nlz_74 rfl (lv_at hl 0 rfl) ?_
            refine lv_iconst (v := nI 1) hx hb d_nlz_75 (by decide) ?_
            refine lv_iushr (v := zu (nI (((v / 65536) / 16) / 4)) (nI 1)) hx hb d_nlz_76 rfl ?_
            refine lv_topi (nm_r (show _ = nI ((((v / 65536) / 16) / 4) / 2) from pk_ushrN (by omega) _ 1 (by decide)) ?_)
            refine lv_isub hx hb d_nlz_77 ?_
            refine lv_topi (nm_r (show _ = nI (9 - ((((v / 65536) / 16) / 4) / 2)) from pk_sub (by omega)) ?_)
            exact W.iret (v := nI (9 - ((((v / 65536) / 16) / 4) / 2))) hx hb hr (fun t9 ht9 hW9 => ⟨⟨nI (9 - ((((v / 65536) / 16) / 4) / 2)), (), rfl, congrArg nI (by have z9 := z_leaf (s := 22) (q := 4194304) (by decide) a1 a2 (by omega) (by omega); omega), by rw [ht9]; exact hP, va_K.moved hW9.alike hK, hD⟩, hS.F ht9⟩) hS.2.2 d_nlz_78
      · replace c4 : ¬ (v / 65536 < 256) := fun h9 => c4 ((nI_ltI (a := v / 65536) (b := 256) (by omega) (by omega)).mpr h9)
        refine lv_iinc (v := nI 7) (lv' := [(1, .int (nI 7)), (0, .int (nI (v / 65536)))]) hx hb d_nlz_40 hl (k := 1) rfl (by decide) (by decide) rfl (fun ls hl => ?_)
        refine lv_iload_n hx hb d_nlz_43 rfl (lv_at hl 1 rfl) ?_
        refine lv_bipush (v := nI 8) hx hb d_nlz_44 (by decide) ?_
        refine lv_iushr (v := zu (nI (v / 65536)) (nI 8)) hx hb d_nlz_46 rfl ?_
        refine lv_topi (nm_r (show _ = nI ((v / 65536) / 256) from pk_ushrN (by omega) _ 8 (by decide)) ?_)
        refine lv_istore_n (lv' := [(0, .int (nI ((v / 65536) / 256))), (1, .int (nI 7))]) hx hb d_nlz_47 rfl hl (by decide) rfl (fun ls hl => ?_)
        refine lv_iload_n hx hb d_nlz_48 rfl (lv_at hl 0 rfl) ?_
        refine lv_bipush (v := nI 16) hx hb d_nlz_49 (by decide) ?_
        refine lv_icmp_lt (tgt := 61) hx hb d_nlz_51 (by decide) (fun c5 => ?_) (fun c5 => ?_)
        · replace c5 : (v / 65536) / 256 < 16 := (nI_ltI (a := (v / 65536) / 256) (b := 16) (by omega) (by omega)).mp c5
          refine lv_iload_n hx hb d_nlz_61 rfl (lv_at hl 0 rfl) ?_
          refine lv_iconst (v := nI 4) hx hb d_nlz_62 (by decide) ?_
          refine lv_icmp_lt (tgt := 73) hx hb d_nlz_63 (by decide) (fun c6 => ?_) (fun c6 => ?_)
          · replace c6 : (v / 65536) / 256 < 4 := (nI_ltI (a := (v / 65536) / 256) (b := 4) (by omega) (by omega)).mp c6
            refine lv_iload_n hx hb d_nlz_73 rfl (lv_at hl 1 rfl) ?_
            refine lv_iload_n hx hb d_nlz_74 rfl (lv_at hl 0 rfl) ?_
            refine lv_iconst (v := nI 1) hx hb d_nlz_75 (by decide) ?_
            refine lv_iushr (v := zu (nI ((v / 65536) / 256)) (nI 1)) hx hb d_nlz_76 rfl ?_
            refine lv_topi (nm_r (show _ = nI (((v / 65536) / 256) / 2) from pk_ushrN (by omega) _ 1 (by decide)) ?_)
            refine lv_isub hx hb d_nlz_77 ?_
            refine lv_topi (nm_r (show _ = nI (7 - (((v / 65536) / 256) / 2)) from pk_sub (by omega)) ?_)
            exact W.iret (v := nI (7 - (((v / 65536) / 256) / 2))) hx hb hr (fun t9 ht9 hW9 => ⟨⟨nI (7 - (((v / 65536) / 256) / 2)), (), rfl, congrArg nI (by have z9 := z_leaf (s := 24) (q := 16777216) (by decide) a1 a2 (by omega) (by omega); omega), by rw [ht9]; exact hP, va_K.moved hW9.alike hK, hD⟩, hS.F ht9⟩) hS.2.2 d_nlz_78
          · replace c6 : ¬ ((v / 65536) / 256 < 4) := fun h9 => c6 ((nI_ltI (a := (v / 65536) / 256) (b := 4) (by omega) (by omega)).mpr h9)
            refine lv_iinc (v := nI 5) (lv' := [(1, .int (nI 5)), (0, .int (nI ((v / 65536) / 256)))]) hx hb d_nlz_66 hl (k := 1) rfl (by decide) (by decide) rfl (fun ls hl => ?_)
            refine lv_iload_n hx hb d_nlz_69 rfl (lv_at hl 1 rfl) ?_
            refine lv_iconst (v := nI 2) hx hb d_nlz_70 (by decide) ?_
            refine lv_iushr (v := zu (nI ((v / 65536) / 256)) (nI 2)) hx hb d_nlz_71 rfl ?_
            refine lv_topi (nm_r (show _ = nI (((v / 65536) / 256) / 4) from pk_ushrN (by omega) _ 2 (by decide)) ?_)
            refine lv_istore_n (lv' := [(0, .int (nI (((v / 65536) / 256) / 4))), (1, .int (nI 5))]) hx hb d_nlz_72 rfl hl (by decide) rfl (fun ls hl => ?_)
            refine lv_iload_n hx hb d_nlz_73 rfl (lv_at hl 1 rfl) ?_
            refine lv_iload_n hx hb d_nlz_74 rfl (lv_at hl 0 rfl) ?_
            refine lv_iconst (v := nI 1) hx hb d_nlz_75 (by decide) ?_
            refine lv_iushr (v := zu (nI (((v / 65536) / 256) / 4)) (nI 1)) hx hb d_nlz_76 rfl ?_
            refine lv_topi (nm_r (show _ = nI ((((v / 65536) / 256) / 4) / 2) from pk_ushrN (by omega) _ 1 (by decide)) ?_)
            refine lv_isub hx hb d_nlz_77 ?_
            refine lv_topi (nm_r (show _ = nI (5 - ((((v / 65536) / 256) / 4) / 2)) from pk_sub (by omega)) ?_)
            exact W.iret (v := nI (5 - ((((v / 65536) / 256) / 4) / 2))) hx hb hr (fun t9 ht9 hW9 => ⟨⟨nI (5 - ((((v / 65536) / 256) / 4) / 2)), (), rfl, congrArg nI (by have z9 := z_leaf (s := 26) (q := 67108864) (by decide) a1 a2 (by omega) (by omega); omega), by rw [ht9]; exact hP, va_K.moved hW9.alike hK, hD⟩, hS.F ht9⟩) hS.2.2 d_nlz_78
        · replace c5 : ¬ ((v / 65536) / 256 < 16) := fun h9 => c5 ((nI_ltI (a := (v / 65536) / 256) (b := 16) (by omega) (by omega)).mpr h9)
          refine lv_iinc (v := nI 3) (lv' := [(1, .int (nI 3)), (0, .int (nI ((v / 65536) / 256)))]) hx hb d_nlz_54 hl (k := 1) rfl (by decide) (by decide) rfl (fun ls hl => ?_)
          refine lv_iload_n hx hb d_nlz_57 rfl (lv_at hl 1 rfl) ?_
          refine lv_iconst (v := nI 4) hx hb d_nlz_58 (by decide) ?_
          refine lv_iushr (v := zu (nI ((v / 65536) / 256)) (nI 4)) hx hb d_nlz_59 rfl ?_
          refine lv_topi (nm_r (show _ = nI (((v / 65536) / 256) / 16) from pk_ushrN (by omega) _ 4 (by decide)) ?_)
          refine lv_istore_n (lv' := [(0, .int (nI (((v / 65536) / 256) / 16))), (1, .int (nI 3))]) hx hb d_nlz_60 rfl hl (by decide) rfl (fun ls hl => ?_)
          refine lv_iload_n hx hb d_nlz_61 rfl (lv_at hl 0 rfl) ?_
          refine lv_iconst (v := nI 4) hx hb d_nlz_62 (by decide) ?_
          refine lv_icmp_lt (tgt := 73) hx hb d_nlz_63 (by decide) (fun c6 => ?_) (fun c6 => ?_)
          · replace c6 : ((v / 65536) / 256) / 16 < 4 := (nI_ltI (a := ((v / 65536) / 256) / 16) (b := 4) (by omega) (by omega)).mp c6
            refine lv_iload_n hx hb d_nlz_73 rfl (lv_at hl 1 rfl) ?_
            refine lv_iload_n hx hb d_nlz_74 rfl (lv_at hl 0 rfl) ?_
            refine lv_iconst (v := nI 1) hx hb d_nlz_75 (by decide) ?_
            refine lv_iushr (v := zu (nI (((v / 65536) / 256) / 16)) (nI 1)) hx hb d_nlz_76 rfl ?_
            refine lv_topi (nm_r (show _ = nI ((((v / 65536) / 256) / 16) / 2) from pk_ushrN (by omega) _ 1 (by decide)) ?_)
            refine lv_isub hx hb d_nlz_77 ?_
            refine lv_topi (nm_r (show _ = nI (3 - ((((v / 65536) / 256) / 16) / 2)) from pk_sub (by omega)) ?_)
            exact W.iret (v := nI (3 - ((((v / 65536) / 256) / 16) / 2))) hx hb hr (fun t9 ht9 hW9 => ⟨⟨nI (3 - ((((v / 65536) / 256) / 16) / 2)), (), rfl, congrArg nI (by have z9 := z_leaf (s := 28) (q := 268435456) (by decide) a1 a2 (by omega) (by omega); omega), by rw [ht9]; exact hP, va_K.moved hW9.alike hK, hD⟩, hS.F ht9⟩) hS.2.2 d_nlz_78
          · replace c6 : ¬ (((v / 65536) / 256) / 16 < 4) := fun h9 => c6 ((nI_ltI (a := ((v / 65536) / 256) / 16) (b := 4) (by omega) (by omega)).mpr h9)
            refine lv_iinc (v := nI 1) (lv' := [(1, .int (nI 1)), (0, .int (nI (((v / 65536) / 256) / 16)))]) hx hb d_nlz_66 hl (k := 1) rfl (by decide) (by decide) rfl (fun ls hl => ?_)
            refine lv_iload_n hx hb d_nlz_69 rfl (lv_at hl 1 rfl) ?_
            refine lv_iconst (v := nI 2) hx hb d_nlz_70 (by decide) ?_
            refine lv_iushr (v := zu (nI (((v / 65536) / 256) / 16)) (nI 2)) hx hb d_nlz_71 rfl ?_
            refine lv_topi (nm_r (show _ = nI ((((v / 65536) / 256) / 16) / 4) from pk_ushrN (by omega) _ 2 (by decide)) ?_)
            refine lv_istore_n (lv' := [(0, .int (nI ((((v / 65536) / 256) / 16) / 4))), (1, .int (nI 1))]) hx hb d_nlz_72 rfl hl (by decide) rfl (fun ls hl => ?_)
            refine lv_iload_n hx hb d_nlz_73 rfl (lv_at hl 1 rfl) ?_
            refine lv_iload_n hx hb d_nlz_74 rfl (lv_at hl 0 rfl) ?_
            refine lv_iconst (v := nI 1) hx hb d_nlz_75 (by decide) ?_
            refine lv_iushr (v := zu (nI ((((v / 65536) / 256) / 16) / 4)) (nI 1)) hx hb d_nlz_76 rfl ?_
            refine lv_topi (nm_r (show _ = nI (((((v / 65536) / 256) / 16) / 4) / 2) from pk_ushrN (by omega) _ 1 (by decide)) ?_)
            refine lv_isub hx hb d_nlz_77 ?_
            refine lv_topi (nm_r (show _ = nI (1 - (((((v / 65536) / 256) / 16) / 4) / 2)) from pk_sub (by omega)) ?_)
            exact W.iret (v := nI (1 - (((((v / 65536) / 256) / 16) / 4) / 2))) hx hb hr (fun t9 ht9 hW9 => ⟨⟨nI (1 - (((((v / 65536) / 256) / 16) / 4) / 2)), (), rfl, congrArg nI (by have z9 := z_leaf (s := 30) (q := 1073741824) (by decide) a1 a2 (by omega) (by omega); omega), by rw [ht9]; exact hP, va_K.moved hW9.alike hK, hD⟩, hS.F ht9⟩) hS.2.2 d_nlz_78
  · refine lv_iload_n hx hb d_nlz_4 rfl (lv_at hl 0 rfl) ?_
    refine lv_if_ne (tgt := 13) hx hb d_nlz_5 (by decide) (fun c2 => ?_) (fun c2 => ?_)
    · refine lv_iconst (v := (0 : Int32)) hx hb d_nlz_13 (by decide) ?_
      exact W.iret (v := (0 : Int32)) hx hb hr (fun t9 ht9 hW9 => ⟨⟨(0 : Int32), (), rfl, z_nlz0 ht ex a1 a2 c1, by rw [ht9]; exact hP, va_K.moved hW9.alike hK, hD⟩, hS.F ht9⟩) hS.2.2 d_nlz_14
    · rw [c2] at g1
      rw [b_0] at g1
      cases g1
set_option maxHeartbeats 4000000 in
set_option maxRecDepth 100000 in
/-- Integer.numberOfTrailingZeros(x), t the lowest set bit -/
theorem k_ntz (l : Launch) (dC : Nat → ClassId) (dI : Nat → Nat → Nat)  (sz : Nat) (x : Int32) (t : Nat) (ht : t < 32) (g1 : bt x t = true) (g2 : ∀ k, k < t → bt x k = false) : Met l y_ntz ws_ntz ({ frames := 0, cells := 0, slots := 0, locals := 0 }) (va_Pc [.int x] (cc_P (dC, dI) vwCl ([] : va_W) [] sz)) (va_Qi (S := Unit) (fun (r : Int32) (_ : Unit) => r = nI t) (fun u t => cc_B (dC, dI) vwCl [] (va_A ([] : va_W) sz) ((fun _ : Unit => ([] : va_W)) u) t) (va_A ([] : va_W) sz)) 0 0 (va_A ([] : va_W) sz) := by
  refine Met.ofW (cc := c_ntz) (maxL := 2) (ret := (some .int)) (by decide) rfl ?_
  intro p e s m args below meth c s₁ B hml hv
  obtain ⟨rfl, hsz, hP, hK, hD0⟩ := hv
  have hx := B.exec
  have hb := B.bytes
  have hr := B.returns
  have hts : ∀ w ∈ zAll, w.before _ s = true := fun w h => atoms_spec (ws := ws_ntz) B.pre w (List.mem_cons_of_mem _ h)
  have hown : s.vm.findClass RI = some m.cls := findClass_of_methodNamed B.named
  have hlocks := B.notSynchronized
  subst hsz
  have hD := hD0.self (sz := s.heap.size)
  generalize hAe : va_A ([] : va_W) s.heap.size = A at hD ⊢
  have hA : ∀ q : Nat, s.heap.size ≤ q → A q := fun q h => by rw [← hAe]; exact Or.inr h
  have hS : va_S A s.heap s.heap [] := va_S.rf
  replace hP : va_P (dC, dI) vwCl [] s.heap := hP
  replace hD : va_D A [] := hD
  have hl := lv_entry ([.int x]) (n := 2) (Nat.le_of_ble_eq_true rfl)
  rw [lg_entry_eq]
  generalize (lg_sl ([.int x]) ++ List.replicate (2 - (lg_sl ([.int x])).length) Slot.unset).toArray = ls at hl ⊢
  replace hl : lv_has ls 2 [(0, .int x)] := hl
  refine lv_iload_n hx hb d_ntz_0 rfl (lv_at hl 0 rfl) ?_
  refine lv_iconst (v := (-1 : Int32)) hx hb d_ntz_1 (by decide) ?_
  refine lv_ixor hx hb d_ntz_2 ?_
  refine lv_iload_n hx hb d_ntz_3 rfl (lv_at hl 0 rfl) ?_
  refine lv_iconst (v := (1 : Int32)) hx hb d_ntz_4 (by decide) ?_
  refine lv_isub hx hb d_ntz_5 ?_
  refine lv_iand hx hb d_ntz_6 ?_
  obtain ⟨v, ev⟩ : ∃ v : Nat, v = 2 ^ t - 1 := ⟨_, rfl⟩
  refine lv_topi (nm_r (show _ = nI v from by rw [ev]; exact z_mask ht g1 g2) ?_)
  have hv : v < 2147483648 := z_lt32 ht ev
  refine lv_istore_n (lv' := [(0, .int (nI v))]) hx hb d_ntz_7 rfl hl (by decide) rfl (fun ls hl => ?_)
  refine lv_iload_n hx hb d_ntz_8 rfl (lv_at hl 0 rfl) ?_
  refine lv_if_gt (tgt := 17) hx hb d_ntz_9 (by decide) (fun c1 => ?_) (fun c1 => ?_)
  · replace c1 : 0 < v := (nI_ltI (a := 0) (b := v) (by omega) (by omega)).mp c1
    refine lv_iconst (v := nI 1) hx hb d_ntz_17 (by decide) ?_
    refine lv_istore_n (lv' := [(1, .int (nI 1)), (0, .int (nI v))]) hx hb d_ntz_18 rfl hl (by decide) rfl (fun ls hl => ?_)
    refine lv_iload_n hx hb d_ntz_19 rfl (lv_at hl 1 rfl) ?_
    refine lv_ldcw (v := 65536) hx hb hown (hts _ wk_264) d_ntz_20 ?_
    refine lv_topi (nm_r (show _ = nI 65536 from by decide) ?_)
    refine lv_icmp_le (tgt := 34) hx hb d_ntz_23 (by decide) (fun c2 => ?_) (fun c2 => ?_)
    · replace c2 : v ≤ 65536 := (nI_leI (a := v) (b := 65536) (by omega) (by omega)).mp c2
      refine lv_iload_n hx hb d_ntz_34 rfl (lv_at hl 1 rfl) ?_
      refine lv_sipush (v := nI 256) hx hb d_ntz_35 (by decide) ?_
      refine lv_icmp_le (tgt := 49) hx hb d_ntz_38 (by decide) (fun c3 => ?_) (fun c3 => ?_)
      · replace c3 : v ≤ 256 := (nI_leI (a := v) (b := 256) (by omega) (by omega)).mp c3
        refine lv_iload_n hx hb d_ntz_49 rfl (lv_at hl 1 rfl) ?_
        refine lv_bipush (v := nI 16) hx hb d_ntz_50 (by decide) ?_
        refine lv_icmp_le (tgt := 62) hx hb d_ntz_52 (by decide) (fun c4 => ?_) (fun c4 => ?_)
        · replace c4 : v ≤ 16 := (nI_leI (a := v) (b := 16) (by omega) (by omega)).mp c4
          refine lv_iload_n hx hb d_ntz_62 rfl (lv_at hl 1 rfl) ?_
          refine lv_iconst (v := nI 4) hx hb d_ntz_63 (by decide) ?_
          refine lv_icmp_le (tgt := 74) hx hb d_ntz_64 (by decide) (fun c5 => ?_) (fun c5 => ?_)
          · replace c5 : v ≤ 4 := (nI_leI (a := v) (b := 4) (by omega) (by omega)).mp c5
            refine lv_iload_n hx hb d_ntz_74 rfl (lv_at hl 0 rfl) ?_
            refine lv_iload_n hx hb d_ntz_75 rfl (lv_at hl 1 rfl) ?_
            refine lv_iconst (v := nI 1) hx hb d_ntz_76 (by decide) ?_
            refine lv_iushr (v := zu (nI v) (nI 1)) hx hb d_ntz_77 rfl ?_
            refine lv_topi (nm_r (show _ = nI (v / 2) from pk_ushrN (by omega) _ 1 (by decide)) ?_)
            refine lv_iadd hx hb d_ntz_78 ?_
            refine lv_topi (nm_r (show _ = nI (1 + (v / 2)) from nI_add _ _) ?_)
            exact W.iret (v := nI (1 + (v / 2))) hx hb hr (fun t9 ht9 hW9 => ⟨⟨nI (1 + (v / 2)), (), rfl, congrArg nI (by have z9 := z_leaf2 (s := 0) (q := 1) (by decide) ev (by omega) (by omega); omega), by rw [ht9]; exact hP, va_K.moved hW9.alike hK, hD⟩, hS.F ht9⟩) hS.2.2 d_ntz_79
          · replace c5 : ¬ (v ≤ 4) := fun h9 => c5 ((nI_leI (a := v) (b := 4) (by omega) (by omega)).mpr h9)
            refine lv_iinc (v := nI 3) (lv' := [(1, .int (nI 3)), (0, .int (nI v))]) hx hb d_ntz_67 hl (k := 0) rfl (by decide) (by decide) rfl (fun ls hl => ?_)
            refine lv_iload_n hx hb d_ntz_70 rfl (lv_at hl 1 rfl) ?_
            refine lv_iconst (v := nI 2) hx hb d_ntz_71 (by decide) ?_
            refine lv_iushr (v := zu (nI v) (nI 2)) hx hb d_ntz_72 rfl ?_
            refine lv_topi (nm_r (show _ = nI (v / 4) from pk_ushrN (by omega) _ 2 (by decide)) ?_)
            refine lv_istore_n (lv' := [(0, .int (nI (v / 4))), (1, .int (nI 3))]) hx hb d_ntz_73 rfl hl (by decide) rfl (fun ls hl => ?_)
            refine lv_iload_n hx hb d_ntz_74 rfl (lv_at hl 1 rfl) ?_
            refine lv_iload_n hx hb d_ntz_75 rfl (lv_at hl 0 rfl) ?_
            refine lv_iconst (v := nI 1) hx hb d_ntz_76 (by decide) ?_
            refine lv_iushr (v := zu (nI (v / 4)) (nI 1)) hx hb d_ntz_77 rfl ?_
            refine lv_topi (nm_r (show _ = nI ((v / 4) / 2) from pk_ushrN (by omega) _ 1 (by decide)) ?_)
            refine lv_iadd hx hb d_ntz_78 ?_
            refine lv_topi (nm_r (show _ = nI (3 + ((v / 4) / 2)) from nI_add _ _) ?_)
            exact W.iret (v := nI (3 + ((v / 4) / 2))) hx hb hr (fun t9 ht9 hW9 => ⟨⟨nI (3 + ((v / 4) / 2)), (), rfl, congrArg nI (by have z9 := z_leaf2 (s := 2) (q := 4) (by decide) ev (by omega) (by omega); omega), by rw [ht9]; exact hP, va_K.moved hW9.alike hK, hD⟩, hS.F ht9⟩) hS.2.2 d_ntz_79
        · replace c4 : ¬ (v ≤ 16) := fun h9 => c4 ((nI_leI (a := v) (b := 16) (by omega) (by omega)).mpr h9)
          refine lv_iinc (v := nI 5) (lv' := [(1, .int (nI 5)), (0, .int (nI v))]) hx hb d_ntz_55 hl (k := 0) rfl (by decide) (by decide) rfl (fun ls hl => ?_)
          refine lv_iload_n hx hb d_ntz_58 rfl (lv_at hl 1 rfl) ?_
          refine lv_iconst (v := nI 4) hx hb d_ntz_59 (by decide) ?_
          refine lv_iushr (v := zu (nI v) (nI 4)) hx hb d_ntz_60 rfl ?_
          refine lv_topi (nm_r (show _ = nI (v / 16) from pk_ushrN (by omega) _ 4 (by decide)) ?_)
          refine lv_istore_n (lv' := [(0, .int (nI (v / 16))), (1, .int (nI 5))]) hx hb d_ntz_61 rfl hl (by decide) rfl (fun ls hl => ?_)
          refine lv_iload_n hx hb d_ntz_62 rfl (lv_at hl 0 rfl) ?_
          refine lv_iconst (v := nI 4) hx hb d_ntz_63 (by decide) ?_
          refine lv_icmp_le (tgt := 74) hx hb d_ntz_64 (by decide) (fun c5 => ?_) (fun c5 => ?_)
          · replace c5 : v / 16 ≤ 4 := (nI_leI (a := v / 16) (b := 4) (by omega) (by omega)).mp c5
            refine lv_iload_n hx hb d_ntz_74 rfl (lv_at hl 1 rfl) ?_
            refine lv_iload_n hx hb d_ntz_75 rfl (lv_at hl 0 rfl) ?_
            refine lv_iconst (v := nI 1) hx hb d_ntz_76 (by decide) ?_
            refine lv_iushr (v := zu (nI (v / 16)) (nI 1)) hx hb d_ntz_77 rfl ?_
            refine lv_topi (nm_r (show _ = nI ((v / 16) / 2) from pk_ushrN (by omega) _ 1 (by decide)) ?_)
            refine lv_iadd hx hb d_ntz_78 ?_
            refine lv_topi (nm_r (show _ = nI (5 + ((v / 16) / 2)) from nI_add _ _) ?_)
            exact W.iret (v := nI (5 + ((v / 16) / 2))) hx hb hr (fun t9 ht9 hW9 => ⟨⟨nI (5 + ((v / 16) / 2)), (), rfl, congrArg nI (by have z9 := z_leaf2 (s := 4) (q := 16) (by decide) ev (by omega) (by omega); omega), by rw [ht9]; exact hP, va_K.moved hW9.alike hK, hD⟩, hS.F ht9⟩) hS.2.2 d_ntz_79
          · replace c5 : ¬ (v / 16 ≤ 4) := fun h9 => c5 ((nI_leI (a := v / 16) (b := 4) (by omega) (by omega)).mpr h9)
            refine lv_iinc (v := nI 7) (lv' := [(1, .int (nI 7)), (0, .int (nI (v / 16)))]) hx hb d_ntz_67 hl (k := 1) rfl (by decide) (by decide) rfl (fun ls hl => ?_)
            refine lv_iload_n hx hb d_ntz_70 rfl (lv_at hl 1 rfl) ?_
            refine lv_iconst (v := nI 2) hx hb d_ntz_71 (by decide) ?_
            refine lv_iushr (v := zu (nI (v / 16)) (nI 2)) hx hb d_ntz_72 rfl ?_
            refine lv_topi (nm_r (show _ = nI ((v / 16) / 4) from pk_ushrN (by omega) _ 2 (by decide)) ?_)
            refine lv_istore_n (lv' := [(0, .int (nI ((v / 16) / 4))), (1, .int (nI 7))]) hx hb d_ntz_73 rfl hl (by decide) rfl (fun ls hl => ?_)
            refine lv_iload_n hx hb d_ntz_74 rfl (lv_at hl 1 rfl) ?_
            refine lv_iload_n hx hb d_ntz_75 rfl (lv_at hl 0 rfl) ?_
            refine lv_iconst (v := nI 1) hx hb d_ntz_76 (by decide) ?_
            refine lv_iushr (v := zu (nI ((v / 16) / 4)) (nI 1)) hx hb d_ntz_77 rfl ?_
            refine lv_topi (nm_r (show _ = nI (((v / 16) / 4) / 2) from pk_ushrN (by omega) _ 1 (by decide)) ?_)
            refine lv_iadd hx hb d_ntz_78 ?_
            refine lv_topi (nm_r (show _ = nI (7 + (((v / 16) / 4) / 2)) from nI_add _ _) ?_)
            exact W.iret (v := nI (7 + (((v / 16) / 4) / 2))) hx hb hr (fun t9 ht9 hW9 => ⟨⟨nI (7 + (((v / 16) / 4) / 2)), (), rfl, congrArg nI (by have z9 := z_leaf2 (s := 6) (q := 64) (by decide) ev (by omega) (by omega); omega), by rw [ht9]; exact hP, va_K.moved hW9.alike hK, hD⟩, hS.F ht9⟩) hS.2.2 d_ntz_79
      · replace c3 : ¬ (v ≤ 256) := fun h9 => c3 ((nI_leI (a := v) (b := 256) (by omega) (by omega)).mpr h9)
        refine lv_iinc (v := nI 9) (lv' := [(1, .int (nI 9)), (0, .int (nI v))]) hx hb d_ntz_41 hl (k := 0) rfl (by decide) (by decide) rfl (fun ls hl => ?_)
        refine lv_iload_n hx hb d_ntz_44 rfl (lv_at hl 1 rfl) ?_
        refine lv_bipush (v := nI 8) hx hb d_ntz_45 (by decide) ?_
        refine lv_iushr (v := zu (nI v) (nI 8)) hx hb d_ntz_47 rfl ?_
        refine lv_topi (nm_r (show _ = nI (v / 256) from pk_ushrN (by omega) _ 8 (by decide)) ?_)
        refine lv_istore_n (lv' := [(0, .int (nI (v / 256))), (1, .int (nI 9))]) hx hb d_ntz_48 rfl hl (by decide) rfl (fun ls hl => ?_)
        refine lv_iload_n hx hb d_ntz_49 rfl (lv_at hl 0 rfl) ?_
        refine lv_bipush (v := nI 16) hx hb d_ntz_50 (by decide) ?_
        refine lv_icmp_le (tgt := 62) hx hb d_ntz_52 (by decide) (fun c4 => ?_) (fun c4 => ?_)
        · replace c4 : v / 256 ≤ 16 := (nI_leI (a := v / 256) (b := 16) (by omega) (by omega)).mp c4
          refine lv_iload_n hx hb d_ntz_62 rfl (lv_at hl 0 rfl) ?_
          refine lv_iconst (v := nI 4) hx hb d_ntz_63 (by decide) ?_
          refine lv_icmp_le (tgt := 74) hx hb d_ntz_64 (by decide) (fun c5 => ?_) (fun c5 => ?_)
          · replace c5 : v / 256 ≤ 4 := (nI_leI (a := v / 256) (b := 4) (by omega) (by omega)).mp c5
            refine lv_iload_n hx hb d_ntz_74 rfl (lv_at hl 1 rfl) ?_
            refine lv_iload_n hx hb d_ntz_75 rfl (lv_at hl 0 rfl) ?_
            refine lv_iconst (v := nI 1) hx hb d_ntz_76 (by decide) ?_
            refine lv_iushr (v := zu (nI (v / 256)) (nI 1)) hx hb d_ntz_77 rfl ?_
            refine lv_topi (nm_r (show _ = nI ((v / 256) / 2) from pk_ushrN (by omega) _ 1 (by decide)) ?_)
            refine lv_iadd hx hb d_ntz_78 ?_
            refine lv_topi (nm_r (show _ = nI (9 + ((v / 256) / 2)) from nI_add _ _) ?_)
            exact W.iret (v := nI (9 + ((v / 256) / 2))) hx hb hr (fun t9 ht9 hW9 => ⟨⟨nI (9 + ((v / 256) / 2)), (), rfl, congrArg nI (by have z9 := z_leaf2 (s := 8) (q := 256) (by decide) ev (by omega) (by omega); omega), by rw [ht9]; exact hP, va_K.moved hW9.alike hK, hD⟩, hS.F ht9⟩) hS.2.2 d_ntz_79
          · replace c5 : ¬ (v / 256 ≤ 4) := fun h9 => c5 ((nI_leI (a := v / 256) (b := 4) (by omega) (by omega)).mpr h9)
            refine lv_iinc (v := nI 11) (lv' := [(1, .int (nI 11)), (0, .int (nI (v / 256)))]) hx hb d_ntz_67 hl (k := 1) rfl (by decide) (by decide) rfl (fun ls hl => ?_)
            refine lv_iload_n hx hb d_ntz_70 rfl (lv_at hl 1 rfl) ?_
            refine lv_iconst (v := nI 2) hx hb d_ntz_71 (by decide) ?_
            refine lv_iushr (v := zu (nI (v / 256)) (nI 2)) hx hb d_ntz_72 rfl ?_
            refine lv_topi (nm_r (show _ = nI ((v / 256) / 4) from pk_ushrN (by omega) _ 2 (by decide)) ?_)
            refine lv_istore_n (lv' := [(0, .int (nI ((v / 256) / 4))), (1, .int (nI 11))]) hx hb d_ntz_73 rfl hl (by decide) rfl (fun ls hl => ?_)
            refine lv_iload_n hx hb d_ntz_74 rfl (lv_at hl 1 rfl) ?_
            refine lv_iload_n hx hb d_ntz_75 rfl (lv_at hl 0 rfl) ?_
            refine lv_iconst (v := nI 1) hx hb d_ntz_76 (by decide) ?_
            refine lv_iushr (v := zu (nI ((v / 256) / 4)) (nI 1)) hx hb d_ntz_77 rfl ?_
            refine lv_topi (nm_r (show _ = nI (((v / 256) / 4) / 2) from pk_ushrN (by omega) _ 1 (by decide)) ?_)
            refine lv_iadd hx hb d_ntz_78 ?_
            refine lv_topi (nm_r (show _ = nI (11 + (((v / 256) / 4) / 2)) from nI_add _ _) ?_)
            exact W.iret (v := nI (11 + (((v / 256) / 4) / 2))) hx hb hr (fun t9 ht9 hW9 => ⟨⟨nI (11 + (((v / 256) / 4) / 2)), (), rfl, congrArg nI (by have z9 := z_leaf2 (s := 10) (q := 1024) (by decide) ev (by omega) (by omega); omega), by rw [ht9]; exact hP, va_K.moved hW9.alike hK, hD⟩, hS.F ht9⟩) hS.2.2 d_ntz_79
        · replace c4 : ¬ (v / 256 ≤ 16) := fun h9 => c4 ((nI_leI (a := v / 256) (b := 16) (by omega) (by omega)).mpr h9)
          refine lv_iinc (v := nI 13) (lv' := [(1, .int (nI 13)), (0, .int (nI (v / 256)))]) hx hb d_ntz_55 hl (k := 1) rfl (by decide) (by decide) rfl (fun ls hl => ?_)
          refine lv_iload_n hx hb d_ntz_58 rfl (lv_at hl 1 rfl) ?_
          refine lv_iconst (v := nI 4) hx hb d_ntz_59 (by decide) ?_
          refine lv_iushr (v := zu (nI (v / 256)) (nI 4)) hx hb d_ntz_60 rfl ?_
          refine lv_topi (nm_r (show _ = nI ((v / 256) / 16) from pk_ushrN (by omega) _ 4 (by decide)) ?_)
          refine lv_istore_n (lv' := [(0, .int (nI ((v / 256) / 16))), (1, .int (nI 13))]) hx hb d_ntz_61 rfl hl (by decide) rfl (fun ls hl => ?_)
          refine lv_iload_n hx hb d_ntz_62 rfl (lv_at hl 0 rfl) ?_
          refine lv_iconst (v := nI 4) hx hb d_ntz_63 (by decide) ?_
          refine lv_icmp_le (tgt := 74) hx hb d_ntz_64 (by decide) (fun c5 => ?_) (fun c5 => ?_)
          · replace c5 : (v / 256) / 16 ≤ 4 := (nI_leI (a := (v / 256) / 16) (b := 4) (by omega) (by omega)).mp c5
            refine lv_iload_n hx hb d_ntz_74 rfl (lv_at hl 1 rfl) ?_
            refine lv_iload_n hx hb d_ntz_75 rfl (lv_at hl 0 rfl) ?_
            refine lv_iconst (v := nI 1) hx hb d_ntz_76 (by decide) ?_
            refine lv_iushr (v := zu (nI ((v / 256) / 16)) (nI 1)) hx hb d_ntz_77 rfl ?_
            refine lv_topi (nm_r (show _ = nI (((v / 256) / 16) / 2) from pk_ushrN (by omega) _ 1 (by decide)) ?_)
            refine lv_iadd hx hb d_ntz_78 ?_
            refine lv_topi (nm_r (show _ = nI (13 + (((v / 256) / 16) / 2)) from nI_add _ _) ?_)
            exact W.iret (v := nI (13 + (((v / 256) / 16) / 2))) hx hb hr (fun t9 ht9 hW9 => ⟨⟨nI (13 + (((v / 256) / 16) / 2)), (), rfl, congrArg nI (by have z9 := z_leaf2 (s := 12) (q := 4096) (by decide) ev (by omega) (by omega); omega), by rw [ht9]; exact hP, va_K.moved hW9.alike hK, hD⟩, hS.F ht9⟩) hS.2.2 d_ntz_79
          · replace c5 : ¬ ((v / 256) / 16 ≤ 4) := fun h9 => c5 ((nI_leI (a := (v / 256) / 16) (b := 4) (by omega) (by omega)).mpr h9)
            refine lv_iinc (v := nI 15) (lv' := [(1, .int (nI 15)), (0, .int (nI ((v / 256) / 16)))]) hx hb d_ntz_67 hl (k := 1) rfl (by decide) (by decide) rfl (fun ls hl => ?_)
            refine lv_iload_n hx hb d_ntz_70 rfl (lv_at hl 1 rfl) ?_
            refine lv_iconst (v := nI 2) hx hb d_ntz_71 (by decide) ?_
            refine lv_iushr (v := zu (nI ((v / 256) / 16)) (nI 2)) hx hb d_ntz_72 rfl ?_
            refine lv_topi (nm_r (show _ = nI (((v / 256) / 16) / 4) from pk_ushrN (by omega) _ 2 (by decide)) ?_)
            refine lv_istore_n (lv' := [(0, .int (nI (((v / 256) / 16) / 4))), (1, .int (nI 15))]) hx hb d_ntz_73 rfl hl (by decide) rfl (fun ls hl => ?_)
            refine lv_iload_n hx hb d_ntz_74 rfl (lv_at hl 1 rfl) ?_
            refine lv_iload_n hx hb d_ntz_75 rfl (lv_at hl 0 rfl) ?_
            refine lv_iconst (v := nI 1) hx hb d_ntz_76 (by decide) ?_
            refine lv_iushr (v := zu (nI (((v / 256) / 16) / 4)) (nI 1)) hx hb d_ntz_77 rfl ?_
            refine lv_topi (nm_r (show _ = nI ((((v / 256) / 16) / 4) / 2) from pk_ushrN (by omega) _ 1 (by decide)) ?_)
            refine lv_iadd hx hb d_ntz_78 ?_
            refine lv_topi (nm_r (show _ = nI (15 + ((((v / 256) / 16) / 4) / 2)) from nI_add _ _) ?_)
            exact W.iret (v := nI (15 + ((((v / 256) / 16) / 4) / 2))) hx hb hr (fun t9 ht9 hW9 => ⟨⟨nI (15 + ((((v / 256) / 16) / 4) / 2)), (), rfl, congrArg nI (by have z9 := z_leaf2 (s := 14) (q := 16384) (by decide) ev (by omega) (by omega); omega), by rw [ht9]; exact hP, va_K.moved hW9.alike hK, hD⟩, hS.F ht9⟩) hS.2.2 d_ntz_79
    · replace c2 : ¬ (v ≤ 65536) := fun h9 => c2 ((nI_leI (a := v) (b := 65536) (by omega) (by omega)).mpr h9)
      refine lv_iinc (v := nI 17) (lv' := [(1, .int (nI 17)), (0, .int (nI v))]) hx hb d_ntz_26 hl (k := 0) rfl (by decide) (by decide) rfl (fun ls hl => ?_)
      refine lv_iload_n hx hb d_ntz_29 rfl (lv_at hl 1 rfl) ?_
      refine lv_bipush (v := nI 16) hx hb d_ntz_30 (by decide) ?_
      refine lv_iushr (v := zu (nI v) (nI 16)) hx hb d_ntz_32 rfl ?_
      refine lv_topi (nm_r (show _ = nI (v / 65536) from pk_ushrN (by omega) _ 16 (by decide)) ?_)
      refine lv_istore_n (lv' := [(0, .int (nI (v / 65536))), (1, .int (nI 17))]) hx hb d_ntz_33 rfl hl (by decide) rfl (fun ls hl => ?_)
      refine lv_iload_n hx hb d_ntz_34 rfl (lv_at hl 0 rfl) ?_
      refine lv_sipush (v := nI 256) hx hb d_ntz_35 (by decide) ?_
      refine lv_icmp_le (tgt := 49) hx hb d_ntz_38 (by decide) (fun c3 => ?_) (fun c3 => ?_)
      · replace c3 : v / 65536 ≤ 256 := (nI_leI (a := v / 65536) (b := 256) (by omega) (by omega)).mp c3
        refine lv_iload_n hx hb d_ntz_49 rfl (lv_at hl 0 rfl) ?_
        refine lv_bipush (v := nI 16) hx hb d_ntz_50 (by decide) ?_
        refine lv_icmp_le (tgt := 62) hx hb d_ntz_52 (by decide) (fun c4 => ?_) (fun c4 => ?_)
        · replace c4 : v / 65536 ≤ 16 := (nI_leI (a := v / 65536) (b := 16) (by omega) (by omega)).mp c4
          refine lv_iload_n hx hb d_ntz_62 rfl (lv_at hl 0 rfl) ?_
          refine lv_iconst (v := nI 4) hx hb d_ntz_63 (by decide) ?_
          refine lv_icmp_le (tgt := 74) hx hb d_ntz_64 (by decide) (fun c5 => ?_) (fun c5 => ?_)
          · replace c5 : v / 65536 ≤ 4 := (nI_leI (a := v / 65536) (b := 4) (by omega) (by omega)).mp c5
            refine lv_iload_n hx hb d_ntz_74 rfl (lv_at hl 1 rfl) ?_
            refine lv_iload_n hx hb d_ntz_75 rfl (lv_at hl 0 rfl) ?_
            refine lv_iconst (v := nI 1) hx hb d_ntz_76 (by decide) ?_
            refine lv_iushr (v := zu (nI (v / 65536)) (nI 1)) hx hb d_ntz_77 rfl ?_
            refine lv_topi (nm_r (show _ = nI ((v / 65536) / 2) from pk_ushrN (by omega) _ 1 (by decide)) ?_)
            refine lv_iadd hx hb d_ntz_78 ?_
            refine lv_topi (nm_r (show _ = nI (17 + ((v / 65536) / 2)) from nI_add _ _) ?_)
            exact W.iret (v := nI (17 + ((v / 65536) / 2))) hx hb hr (fun t9 ht9 hW9 => ⟨⟨nI (17 + ((v / 65536) / 2)), (), rfl, congrArg nI (by have z9 := z_leaf2 (s := 16) (q := 65536) (by decide) ev (by omega) (by omega); omega), by rw [ht9]; exact hP, va_K.moved hW9.alike hK, hD⟩, hS.F ht9⟩) hS.2.2 d_ntz_79
          · replace c5 : ¬ (v / 65536 ≤ 4) := fun h9 => c5 ((nI_leI (a := v / 65536) (b := 4) (by omega) (by omega)).mpr h9)
            refine lv_iinc (v := nI 19) (lv' := [(1, .int (nI 19)), (0, .int (nI (v / 65536)))]) hx hb d_ntz_67 hl (k := 1) rfl (by decide) (by decide) rfl (fun ls hl => ?_)
            refine lv_iload_n hx hb d_ntz_70 rfl (lv_at hl 1 rfl) ?_
            refine lv_iconst (v := nI 2) hx hb d_ntz_71 (by decide) ?_
            refine lv_iushr (v := zu (nI (v / 65536)) (nI 2)) hx hb d_ntz_72 rfl ?_
            refine lv_topi (nm_r (show _ = nI ((v / 65536) / 4) from pk_ushrN (by omega) _ 2 (by decide)) ?_)
            refine lv_istore_n (lv' := [(0, .int (nI ((v / 65536) / 4))), (1, .int (nI 19))]) hx hb d_ntz_73 rfl hl (by decide) rfl (fun ls hl => ?_)
            refine lv_iload_n hx hb d_ntz_74 rfl (lv_at hl 1 rfl) ?_
            refine lv_iload_n hx hb d_ntz_75 rfl (lv_at hl 0 rfl) ?_
            refine lv_iconst (v := nI 1) hx hb d_ntz_76 (by decide) ?_
            refine lv_iushr (v := zu (nI ((v / 65536) / 4)) (nI 1)) hx hb d_ntz_77 rfl ?_
            refine lv_topi (nm_r (show _ = nI (((v / 65536) / 4) / 2) from pk_ushrN (by omega) _ 1 (by decide)) ?_)
            refine lv_iadd hx hb d_ntz_78 ?_
            refine lv_topi (nm_r (show _ = nI (19 + (((v / 65536) / 4) / 2)) from nI_add _ _) ?_)
            exact W.iret (v := nI (19 + (((v / 65536) / 4) / 2))) hx hb hr (fun t9 ht9 hW9 => ⟨⟨nI (19 + (((v / 65536) / 4) / 2)), (), rfl, congrArg nI (by have z9 := z_leaf2 (s := 18) (q := 262144) (by decide) ev (by omega) (by omega); omega), by rw [ht9]; exact hP, va_K.moved hW9.alike hK, hD⟩, hS.F ht9⟩) hS.2.2 d_ntz_79
        · replace c4 : ¬ (v / 65536 ≤ 16) := fun h9 => c4 ((nI_leI (a := v / 65536) (b := 16) (by omega) (by omega)).mpr h9)
          refine lv_iinc (v := nI 21) (lv' := [(1, .int (nI 21)), (0, .int (nI (v / 65536)))]) hx hb d_ntz_55 hl (k := 1) rfl (by decide) (by decide) rfl (fun ls hl => ?_)
          refine lv_iload_n hx hb d_ntz_58 rfl (lv_at hl 1 rfl) ?_
          refine lv_iconst (v := nI 4) hx hb d_ntz_59 (by decide) ?_
          refine lv_iushr (v := zu (nI (v / 65536)) (nI 4)) hx hb d_ntz_60 rfl ?_
          refine lv_topi (nm_r (show _ = nI ((v / 65536) / 16) from pk_ushrN (by omega) _ 4 (by decide)) ?_)
          refine lv_istore_n (lv' := [(0, .int (nI ((v / 65536) / 16))), (1, .int (nI 21))]) hx hb d_ntz_61 rfl hl (by decide) rfl (fun ls hl => ?_)
          refine lv_iload_n hx hb d_ntz_62 rfl (lv_at hl 0 rfl) ?_
          refine lv_iconst (v := nI 4) hx hb d_ntz_63 (by decide) ?_
          refine lv_icmp_le (tgt := 74) hx hb d_ntz_64 (by decide) (fun c5 => ?_) (fun c5 => ?_)
          · replace c5 : (v / 65536) / 16 ≤ 4 := (nI_leI (a := (v / 65536) / 16) (b := 4) (by omega) (by omega)).mp c5
            refine lv_iload_n hx hb d_ntz_74 rfl (lv_at hl 1 rfl) ?_
            refine lv_iload_n hx hb d_ntz_75 rfl (lv_at hl 0 rfl) ?_
            refine lv_iconst (v := nI 1) hx hb d_ntz_76 (by decide) ?_
            refine lv_iushr (v := zu (nI ((v / 65536) / 16)) (nI 1)) hx hb d_ntz_77 rfl ?_
            refine lv_topi (nm_r (show _ = nI (((v / 65536) / 16) / 2) from pk_ushrN (by omega) _ 1 (by decide)) ?_)
            refine lv_iadd hx hb d_ntz_78 ?_
            refine lv_topi (nm_r (show _ = nI (21 + (((v / 65536) / 16) / 2)) from nI_add _ _) ?_)
            exact W.iret (v := nI (21 + (((v / 65536) / 16) / 2))) hx hb hr (fun t9 ht9 hW9 => ⟨⟨nI (21 + (((v / 65536) / 16) / 2)), (), rfl, congrArg nI (by have z9 := z_leaf2 (s := 20) (q := 1048576) (by decide) ev (by omega) (by omega); omega), by rw [ht9]; exact hP, va_K.moved hW9.alike hK, hD⟩, hS.F ht9⟩) hS.2.2 d_ntz_79
          · replace c5 : ¬ ((v / 65536) / 16 ≤ 4) := fun h9 => c5 ((nI_leI (a := (v / 65536) / 16) (b := 4) (by omega) (by omega)).mpr h9)
            refine lv_iinc (v := nI 23) (lv' := [(1, .int (nI 23)), (0, .int (nI ((v / 65536) / 16)))]) hx hb d_ntz_67 hl (k := 1) rfl (by decide) (by decide) rfl (fun ls hl => ?_)
            refine lv_iload_n hx hb d_ntz_70 rfl (lv_at hl 1 rfl) ?_
            refine lv_iconst (v := nI 2) hx hb d_ntz_71 (by decide) ?_
            refine lv_iushr (v := zu (nI ((v / 65536) / 16)) (nI 2)) hx hb d_ntz_72 rfl ?_
            refine lv_topi (nm_r (show _ = nI (((v / 65536) / 16) / 4) from pk_ushrN (by omega) _ 2 (by decide)) ?_)
            refine lv_istore_n (lv' := [(0, .int (nI (((v / 65536) / 16) / 4))), (1, .int (nI 23))]) hx hb d_ntz_73 rfl hl (by decide) rfl (fun ls hl => ?_)
            refine lv_iload_n hx hb d_ntz_74 rfl (lv_at hl 1 rfl) ?_
            refine lv_iload_n hx hb d_ntz_75 rfl (lv_at hl 0 rfl) ?_
            refine lv_iconst (v := nI 1) hx hb d_ntz_76 (by decide) ?_
            refine lv_iushr (v := zu (nI (((v / 65536) / 16) / 4)) (nI 1)) hx hb d_ntz_77 rfl ?_
            refine lv_topi (nm_r (show _ = nI ((((v / 65536) / 16) / 4) / 2) from pk_ushrN (by omega) _ 1 (by decide)) ?_)
            refine lv_iadd hx hb d_ntz_78 ?_
            refine lv_topi (nm_r (show _ = nI (23 + ((((v / 65536) / 16) / 4) / 2)) from nI_add _ _) ?_)
            exact W.iret (v := nI (23 + ((((v / 65536) / 16) / 4) / 2))) hx hb hr (fun t9 ht9 hW9 => ⟨⟨nI (23 + ((((v / 65536) / 16) / 4) / 2)), (), rfl, congrArg nI (by have z9 := z_leaf2 (s := 22) (q := 4194304) (by decide) ev (by omega) (by omega); omega), by rw [ht9]; exact hP, va_K.moved hW9.alike hK, hD⟩, hS.F ht9⟩) hS.2.2 d_ntz_79
      · replace c3 : ¬ (v / 65536 ≤ 256) := fun h9 => c3 ((nI_leI (a := v / 65536) (b := 256) (by omega) (by omega)).mpr h9)
        refine lv_iinc (v := nI 25) (lv' := [(1, .int (nI 25)), (0, .int (nI (v / 65536)))]) hx hb d_ntz_41 hl (k := 1) rfl (by decide) (by decide) rfl (fun ls hl => ?_)
        refine lv_iload_n hx hb d_ntz_44 rfl (lv_at hl 1 rfl) ?_
        refine lv_bipush (v := nI 8) hx hb d_ntz_45 (by decide) ?_
        refine lv_iushr (v := zu (nI (v / 65536)) (nI 8)) hx hb d_ntz_47 rfl ?_
        refine lv_topi (nm_r (show _ = nI ((v / 65536) / 256) from pk_ushrN (by omega) _ 8 (by decide)) ?_)
        refine lv_istore_n (lv' := [(0, .int (nI ((v / 65536) / 256))), (1, .int (nI 25))]) hx hb d_ntz_48 rfl hl (by decide) rfl (fun ls hl => ?_)
        refine lv_iload_n hx hb d_ntz_49 rfl (lv_at hl 0 rfl) ?_
        refine lv_bipush (v := nI 16) hx hb d_ntz_50 (by decide) ?_
        refine lv_icmp_le (tgt := 62) hx hb d_ntz_52 (by decide) (fun c4 => ?_) (fun c4 => ?_)
        · replace c4 : (v / 65536) / 256 ≤ 16 := (nI_leI (a := (v / 65536) / 256) (b := 16) (by omega) (by omega)).mp c4
          refine lv_iload_n hx hb d_ntz_62 rfl (lv_at hl 0 rfl) ?_
          refine lv_iconst (v := nI 4) hx hb d_ntz_63 (by decide) ?_
          refine lv_icmp_le (tgt := 74) hx hb d_ntz_64 (by decide) (fun c5 => ?_) (fun c5 => ?_)
          · replace c5 : (v / 65536) / 256 ≤ 4 := (nI_leI (a := (v / 65536) / 256) (b := 4) (by omega) (by omega)).mp c5
            refine lv_iload_n hx hb d_ntz_74 rfl (lv_at hl 1 rfl) ?_
            refine lv_iload_n hx hb d_ntz_75 rfl (lv_at hl 0 rfl) ?_
            refine lv_iconst (v := nI 1) hx hb d_ntz_76 (by decide) ?_
            refine lv_iushr (v := zu (nI ((v / 65536) / 256)) (nI 1)) hx hb d_ntz_77 rfl ?_
            refine lv_topi (nm_r (show _ = nI (((v / 65536) / 256) / 2) from pk_ushrN (by omega) _ 1 (by decide)) ?_)
            refine lv_iadd hx hb d_ntz_78 ?_
            refine lv_topi (nm_r (show _ = nI (25 + (((v / 65536) / 256) / 2)) from nI_add _ _) ?_)
            exact W.iret (v := nI (25 + (((v / 65536) / 256) / 2))) hx hb hr (fun t9 ht9 hW9 => ⟨⟨nI (25 + (((v / 65536) / 256) / 2)), (), rfl, congrArg nI (by have z9 := z_leaf2 (s := 24) (q := 16777216) (by decide) ev (by omega) (by omega); omega), by rw [ht9]; exact hP, va_K.moved hW9.alike hK, hD⟩, hS.F ht9⟩) hS.2.2 d_ntz_79
          · replace c5 : ¬ ((v / 65536) / 256 ≤ 4) := fun h9 => c5 ((nI_leI (a := (v / 65536) / 256) (b := 4) (by omega) (by omega)).mpr h9)
            refine lv_iinc (v := nI 27) (lv' := [(1, .int (nI 27)), (0, .int (nI ((v / 65536) / 256)))]) hx hb d_ntz_67 hl (k := 1) rfl (by decide) (by decide) rfl (fun ls hl => ?_)
            refine lv_iload_n hx hb d_ntz_70 rfl (lv_at hl 1 rfl) ?_
            refine lv_iconst (v := nI 2) hx hb d_ntz_71 (by decide) ?_
            refine lv_iushr (v := zu (nI ((v / 65536) / 256)) (nI 2)) hx hb d_ntz_72 rfl ?_
            refine lv_topi (nm_r (show _ = nI (((v / 65536) / 256) / 4) from pk_ushrN (by omega) _ 2 (by decide)) ?_)
            refine lv_istore_n (lv' := [(0, .int (nI (((v / 65536) / 256) / 4))), (1, .int (nI 27))]) hx hb d_ntz_73 rfl hl (by decide) rfl (fun ls hl => ?_)
            refine lv_iload_n hx hb d_ntz_74 rfl (lv_at hl 1 rfl) ?_
            refine lv_iload_n hx hb d_ntz_75 rfl (lv_at hl 0 rfl) ?_
            refine lv_iconst (v := nI 1) hx hb d_ntz_76 (by decide) ?_
            refine lv_iushr (v := zu (nI (((v / 65536) / 256) / 4)) (nI 1)) hx hb d_ntz_77 rfl ?_
            refine lv_topi (nm_r (show _ = nI ((((v / 65536) / 256) / 4) / 2) from pk_ushrN (by omega) _ 1 (by decide)) ?_)
            refine lv_iadd hx hb d_ntz_78 ?_
            refine lv_topi (nm_r (show _ = nI (27 + ((((v / 65536) / 256) / 4) / 2)) from nI_add _ _) ?_)
            exact W.iret (v := nI (27 + ((((v / 65536) / 256) / 4) / 2))) hx hb hr (fun t9 ht9 hW9 => ⟨⟨nI (27 + ((((v / 65536) / 256) / 4) / 2)), (), rfl, congrArg nI (by have z9 := z_leaf2 (s := 26) (q := 67108864) (by decide) ev (by omega) (by omega); omega), by rw [ht9]; exact hP, va_K.moved hW9.alike hK, hD⟩, hS.F ht9⟩) hS.2.2 d_ntz_79
        · replace c4 : ¬ ((v / 65536) / 256 ≤ 16) := fun h9 => c4 ((nI_leI (a := (v / 65536) / 256) (b := 16) (by omega) (by omega)).mpr h9)
          refine lv_iinc (v := nI 29) (lv' := [(1, .int (nI 29)), (0, .int (nI ((v / 65536) / 256)))]) hx hb d_ntz_55 hl (k := 1) rfl (by decide) (by decide) rfl (fun ls hl => ?_)
          refine lv_iload_n hx hb d_ntz_58 rfl (lv_at hl 1 rfl) ?_
          refine lv_iconst (v := nI 4) hx hb d_ntz_59 (by decide) ?_
          refine lv_iushr (v := zu (nI ((v / 65536) / 256)) (nI 4)) hx hb d_ntz_60 rfl ?_
          refine lv_topi (nm_r (show _ = nI (((v / 65536) / 256) / 16) from pk_ushrN (by omega) _ 4 (by decide)) ?_)
          refine lv_istore_n (lv' := [(0, .int (nI (((v / 65536) / 256) / 16))), (1, .int (nI 29))]) hx hb d_ntz_61 rfl hl (by decide) rfl (fun ls hl => ?_)
          refine lv_iload_n hx hb d_ntz_62 rfl (lv_at hl 0 rfl) ?_
          refine lv_iconst (v := nI 4) hx hb d_ntz_63 (by decide) ?_
          refine lv_icmp_le (tgt := 74) hx hb d_ntz_64 (by decide) (fun c5 => ?_) (fun c5 => ?_)
          · replace c5 : ((v / 65536) / 256) / 16 ≤ 4 := (nI_leI (a := ((v / 65536) / 256) / 16) (b := 4) (by omega) (by omega)).mp c5
            refine lv_iload_n hx hb d_ntz_74 rfl (lv_at hl 1 rfl) ?_
            refine lv_iload_n hx hb d_ntz_75 rfl (lv_at hl 0 rfl) ?_
            refine lv_iconst (v := nI 1) hx hb d_ntz_76 (by decide) ?_
            refine lv_iushr (v := zu (nI (((v / 65536) / 256) / 16)) (nI 1)) hx hb d_ntz_77 rfl ?_
            refine lv_topi (nm_r (show _ = nI ((((v / 65536) / 256) / 16) / 2) from pk_ushrN (by omega) _ 1 (by decide)) ?_)
            refine lv_iadd hx hb d_ntz_78 ?_
            refine lv_topi (nm_r (show _ = nI (29 + ((((v / 65536) / 256) / 16) / 2)) from nI_add _ _) ?_)
            exact W.iret (v := nI (29 + ((((v / 65536) / 256) / 16) / 2))) hx hb hr (fun t9 ht9 hW9 => ⟨⟨nI (29 + ((((v / 65536) / 256) / 16) / 2)), (), rfl, congrArg nI (by have z9 := z_leaf2 (s := 28) (q := 268435456) (by decide) ev (by omega) (by omega); omega), by rw [ht9]; exact hP, va_K.moved hW9.alike hK, hD⟩, hS.F ht9⟩) hS.2.2 d_ntz_79
          · replace c5 : ¬ (((v / 65536) / 256) / 16 ≤ 4) := fun h9 => c5 ((nI_leI (a := ((v / 65536) / 256) / 16) (b := 4) (by omega) (by omega)).mpr h9)
            refine lv_iinc (v := nI 31) (lv' := [(1, .int (nI 31)), (0, .int (nI (((v / 65536) / 256) / 16)))]) hx hb d_ntz_67 hl (k := 1) rfl (by decide) (by decide) rfl (fun ls hl => ?_)
            refine lv_iload_n hx hb d_ntz_70 rfl (lv_at hl 1 rfl) ?_
            refine lv_iconst (v := nI 2) hx hb d_ntz_71 (by decide) ?_
            refine lv_iushr (v := zu (nI (((v / 65536) / 256) / 16)) (nI 2)) hx hb d_ntz_72 rfl ?_
            refine lv_topi (nm_r (show _ = nI ((((v / 65536) / 256) / 16) / 4) from pk_ushrN (by omega) _ 2 (by decide)) ?_)
            refine lv_istore_n (lv' := [(0, .int (nI ((((v / 65536) / 256) / 16) / 4))), (1, .int (nI 31))]) hx hb d_ntz_73 rfl hl (by decide) rfl (fun ls hl => ?_)
            refine lv_iload_n hx hb d_ntz_74 rfl (lv_at hl 1 rfl) ?_
            refine lv_iload_n hx hb d_ntz_75 rfl (lv_at hl 0 rfl) ?_
            refine lv_iconst (v := nI 1) hx hb d_ntz_76 (by decide) ?_
            refine lv_iushr (v := zu (nI ((((v / 65536) / 256) / 16) / 4)) (nI 1)) hx hb d_ntz_77 rfl ?_
            refine lv_topi (nm_r (show _ = nI (((((v / 65536) / 256) / 16) / 4) / 2) from pk_ushrN (by omega) _ 1 (by decide)) ?_)
            refine lv_iadd hx hb d_ntz_78 ?_
            refine lv_topi (nm_r (show _ = nI (31 + (((((v / 65536) / 256) / 16) / 4) / 2)) from nI_add _ _) ?_)
            exact W.iret (v := nI (31 + (((((v / 65536) / 256) / 16) / 4) / 2))) hx hb hr (fun t9 ht9 hW9 => ⟨⟨nI (31 + (((((v / 65536) / 256) / 16) / 4) / 2)), (), rfl, congrArg nI (by have z9 := z_leaf2 (s := 30) (q := 1073741824) (by decide) ev (by omega) (by omega); omega), by rw [ht9]; exact hP, va_K.moved hW9.alike hK, hD⟩, hS.F ht9⟩) hS.2.2 d_ntz_79
  · replace c1 : ¬ (0 < v) := fun h9 => c1 ((nI_ltI (a := 0) (b := v) (by omega) (by omega)).mpr h9)
    refine lv_iload_n hx hb d_ntz_12 rfl (lv_at hl 0 rfl) ?_
    refine lv_bipush (v := nI 32) hx hb d_ntz_13 (by decide) ?_
    refine lv_iand hx hb d_ntz_15 ?_
    exact W.iret (v := (nI v) &&& (nI 32)) hx hb hr (fun t9 ht9 hW9 => ⟨⟨(nI v) &&& (nI 32), (), rfl, z_ntz0 (z_t0 ev (by omega)) (by omega), by rw [ht9]; exact hP, va_K.moved hW9.alike hK, hD⟩, hS.F ht9⟩) hS.2.2 d_ntz_16
set_option maxHeartbeats 4000000 in
set_option maxRecDepth 100000 in
/-- Integer.bitCount(x) -/
theorem k_pop (l : Launch) (dC : Nat → ClassId) (dI : Nat → Nat → Nat)  (sz : Nat) (x : Int32) : Met l y_pop ws_pop ({ frames := 0, cells := 0, slots := 0, locals := 0 }) (va_Pc [.int x] (cc_P (dC, dI) vwCl ([] : va_W) [] sz)) (va_Qi (S := Unit) (fun (r : Int32) (_ : Unit) => r = nI (zc (bt x) 32)) (fun u t => cc_B (dC, dI) vwCl [] (va_A ([] : va_W) sz) ((fun _ : Unit => ([] : va_W)) u) t) (va_A ([] : va_W) sz)) 0 0 (va_A ([] : va_W) sz) := by
  refine Met.ofW (cc := c_pop) (maxL := 1) (ret := (some .int)) (by decide) rfl ?_
  intro p e s m args below meth c s₁ B hml hv
  obtain ⟨rfl, hsz, hP, hK, hD0⟩ := hv
  have hx := B.exec
  have hb := B.bytes
  have hr := B.returns
  have hts : ∀ w ∈ zAll, w.before _ s = true := fun w h => atoms_spec (ws := ws_pop) B.pre w (List.mem_cons_of_mem _ h)
  have hown : s.vm.findClass RI = some m.cls := findClass_of_methodNamed B.named
  have hlocks := B.notSynchronized
  subst hsz
  have hD := hD0.self (sz := s.heap.size)
  generalize hAe : va_A ([] : va_W) s.heap.size = A at hD ⊢
  have hA : ∀ q : Nat, s.heap.size ≤ q → A q := fun q h => by rw [← hAe]; exact Or.inr h
  have hS : va_S A s.heap s.heap [] := va_S.rf
  replace hP : va_P (dC, dI) vwCl [] s.heap := hP
  replace hD : va_D A [] := hD
  have hl := lv_entry ([.int x]) (n := 1) (Nat.le_of_ble_eq_true rfl)
  rw [lg_entry_eq]
  generalize (lg_sl ([.int x]) ++ List.replicate (1 - (lg_sl ([.int x])).length) Slot.unset).toArray = ls at hl ⊢
  replace hl : lv_has ls 1 [(0, .int x)] := hl
  refine lv_iload_n hx hb d_pop_0 rfl (lv_at hl 0 rfl) ?_
  refine lv_iload_n hx hb d_pop_1 rfl (lv_at hl 0 rfl) ?_
  refine lv_iconst (v := (1 : Int32)) hx hb d_pop_2 (by decide) ?_
  refine lv_iushr (v := zu x (1 : Int32)) hx hb d_pop_3 rfl ?_
  refine lv_ldcw (v := 1431655765) hx hb hown (hts _ wk_265) d_pop_4 ?_
  refine lv_iand hx hb d_pop_7 ?_
  refine lv_isub hx hb d_pop_8 ?_
  refine lv_istore_n (lv' := [(0, .int (x - ((zu x (1 : Int32)) &&& (1431655765 : Int32))))]) hx hb d_pop_9 rfl hl (by decide) rfl (fun ls hl => ?_)
  refine lv_iload_n hx hb d_pop_10 rfl (lv_at hl 0 rfl) ?_
  refine lv_ldcw (v := 858993459) hx hb hown (hts _ wk_266) d_pop_11 ?_
  refine lv_iand hx hb d_pop_14 ?_
  refine lv_iload_n hx hb d_pop_15 rfl (lv_at hl 0 rfl) ?_
  refine lv_iconst (v := (2 : Int32)) hx hb d_pop_16 (by decide) ?_
  refine lv_iushr (v := zu (x - ((zu x (1 : Int32)) &&& (1431655765 : Int32))) (2 : Int32)) hx hb d_pop_17 rfl ?_
  refine lv_ldcw (v := 858993459) hx hb hown (hts _ wk_266) d_pop_18 ?_
  refine lv_iand hx hb d_pop_21 ?_
  refine lv_iadd hx hb d_pop_22 ?_
  refine lv_istore_n (lv' := [(0, .int (((x - ((zu x (1 : Int32)) &&& (1431655765 : Int32))) &&& (858993459 : Int32)) + ((zu (x - ((zu x (1 : Int32)) &&& (1431655765 : Int32))) (2 : Int32)) &&& (858993459 : Int32))))]) hx hb d_pop_23 rfl hl (by decide) rfl (fun ls hl => ?_)
  refine lv_iload_n hx hb d_pop_24 rfl (lv_at hl 0 rfl) ?_
  refine lv_iload_n hx hb d_pop_25 rfl (lv_at hl 0 rfl) ?_
  refine lv_iconst (v := (4 : Int32)) hx hb d_pop_26 (by decide) ?_
  refine lv_iushr (v := zu (((x - ((zu x (1 : Int32)) &&& (1431655765 : Int32))) &&& (858993459 : Int32)) + ((zu (x - ((zu x (1 : Int32)) &&& (1431655765 : Int32))) (2 : Int32)) &&& (858993459 : Int32))) (4 : Int32)) hx hb d_pop_27 rfl ?_
  refine lv_iadd hx hb d_pop_28 ?_
  refine lv_ldcw (v := 252645135) hx hb hown (hts _ wk_267) d_pop_29 ?_
  refine lv_iand hx hb d_pop_32 ?_
  refine lv_istore_n (lv' := [(0, .int (((((x - ((zu x (1 : Int32)) &&& (1431655765 : Int32))) &&& (858993459 : Int32)) + ((zu (x - ((zu x (1 : Int32)) &&& (1431655765 : Int32))) (2 : Int32)) &&& (858993459 : Int32))) + (zu (((x - ((zu x (1 : Int32)) &&& (1431655765 : Int32))) &&& (858993459 : Int32)) + ((zu (x - ((zu x (1 : Int32)) &&& (1431655765 : Int32))) (2 : Int32)) &&& (858993459 : Int32))) (4 : Int32))) &&& (252645135 : Int32)))]) hx hb d_pop_33 rfl hl (by decide) rfl (fun ls hl => ?_)
  refine lv_iload_n hx hb d_pop_34 rfl (lv_at hl 0 rfl) ?_
  refine lv_iload_n hx hb d_pop_35 rfl (lv_at hl 0 rfl) ?_
  refine lv_bipush (v := (8 : Int32)) hx hb d_pop_36 (by decide) ?_
  refine lv_iushr (v := zu (((((x - ((zu x (1 : Int32)) &&& (1431655765 : Int32))) &&& (858993459 : Int32)) + ((zu (x - ((zu x (1 : Int32)) &&& (1431655765 : Int32))) (2 : Int32)) &&& (858993459 : Int32))) + (zu (((x - ((zu x (1 : Int32)) &&& (1431655765 : Int32))) &&& (858993459 : Int32)) + ((zu (x - ((zu x (1 : Int32)) &&& (1431655765 : Int32))) (2 : Int32)) &&& (858993459 : Int32))) (4 : Int32))) &&& (252645135 : Int32)) (8 : Int32)) hx hb d_pop_38 rfl ?_
  refine lv_iadd hx hb d_pop_39 ?_
  refine lv_istore_n (lv' := [(0, .int ((((((x - ((zu x (1 : Int32)) &&& (1431655765 : Int32))) &&& (858993459 : Int32)) + ((zu (x - ((zu x (1 : Int32)) &&& (1431655765 : Int32))) (2 : Int32)) &&& (858993459 : Int32))) + (zu (((x - ((zu x (1 : Int32)) &&& (1431655765 : Int32))) &&& (858993459 : Int32)) + ((zu (x - ((zu x (1 : Int32)) &&& (1431655765 : Int32))) (2 : Int32)) &&& (858993459 : Int32))) (4 : Int32))) &&& (252645135 : Int32)) + (zu (((((x - ((zu x (1 : Int32)) &&& (1431655765 : Int32))) &&& (858993459 : Int32)) + ((zu (x - ((zu x (1 : Int32)) &&& (1431655765 : Int32))) (2 : Int32)) &&& (858993459 : Int32))) + (zu (((x - ((zu x (1 : Int32)) &&& (1431655765 : Int32))) &&& (858993459 : Int32)) + ((zu (x - ((zu x (1 : Int32)) &&& (1431655765 : Int32))) (2 : Int32)) &&& (858993459 : Int32))) (4 : Int32))) &&& (252645135 : Int32)) (8 : Int32))))]) hx hb d_pop_40 rfl hl (by decide) rfl (fun ls hl => ?_)
  refine lv_iload_n hx hb d_pop_41 rfl (lv_at hl 0 rfl) ?_
  refine lv_iload_n hx hb d_pop_42 rfl (lv_at hl 0 rfl) ?_
  refine lv_bipush (v := (16 : Int32)) hx hb d_pop_43 (by decide) ?_
  refine lv_iushr (v := zu ((((((x - ((zu x (1 : Int32)) &&& (1431655765 : Int32))) &&& (858993459 : Int32)) + ((zu (x - ((zu x (1 : Int32)) &&& (1431655765 : Int32))) (2 : Int32)) &&& (858993459 : Int32))) + (zu (((x - ((zu x (1 : Int32)) &&& (1431655765 : Int32))) &&& (858993459 : Int32)) + ((zu (x - ((zu x (1 : Int32)) &&& (1431655765 : Int32))) (2 : Int32)) &&& (858993459 : Int32))) (4 : Int32))) &&& (252645135 : Int32)) + (zu (((((x - ((zu x (1 : Int32)) &&& (1431655765 : Int32))) &&& (858993459 : Int32)) + ((zu (x - ((zu x (1 : Int32)) &&& (1431655765 : Int32))) (2 : Int32)) &&& (858993459 : Int32))) + (zu (((x - ((zu x (1 : Int32)) &&& (1431655765 : Int32))) &&& (858993459 : Int32)) + ((zu (x - ((zu x (1 : Int32)) &&& (1431655765 : Int32))) (2 : Int32)) &&& (858993459 : Int32))) (4 : Int32))) &&& (252645135 : Int32)) (8 : Int32))) (16 : Int32)) hx hb d_pop_45 rfl ?_
  refine lv_iadd hx hb d_pop_46 ?_
  refine lv_istore_n (lv' := [(0, .int (((((((x - ((zu x (1 : Int32)) &&& (1431655765 : Int32))) &&& (858993459 : Int32)) + ((zu (x - ((zu x (1 : Int32)) &&& (1431655765 : Int32))) (2 : Int32)) &&& (858993459 : Int32))) + (zu (((x - ((zu x (1 : Int32)) &&& (1431655765 : Int32))) &&& (858993459 : Int32)) + ((zu (x - ((zu x (1 : Int32)) &&& (1431655765 : Int32))) (2 : Int32)) &&& (858993459 : Int32))) (4 : Int32))) &&& (252645135 : Int32)) + (zu (((((x - ((zu x (1 : Int32)) &&& (1431655765 : Int32))) &&& (858993459 : Int32)) + ((zu (x - ((zu x (1 : Int32)) &&& (1431655765 : Int32))) (2 : Int32)) &&& (858993459 : Int32))) + (zu (((x - ((zu x (1 : Int32)) &&& (1431655765 : Int32))) &&& (858993459 : Int32)) + ((zu (x - ((zu x (1 : Int32)) &&& (1431655765 : Int32))) (2 : Int32)) &&& (858993459 : Int32))) (4 : Int32))) &&& (252645135 : Int32)) (8 : Int32))) + (zu ((((((x - ((zu x (1 : Int32)) &&& (1431655765 : Int32))) &&& (858993459 : Int32)) + ((zu (x - ((zu x (1 : Int32)) &&& (1431655765 : Int32))) (2 : Int32)) &&& (858993459 : Int32))) + (zu (((x - ((zu x (1 : Int32)) &&& (1431655765 : Int32))) &&& (858993459 : Int32)) + ((zu (x - ((zu x (1 : Int32)) &&& (1431655765 : Int32))) (2 : Int32)) &&& (858993459 : Int32))) (4 : Int32))) &&& (252645135 : Int32)) + (zu (((((x - ((zu x (1 : Int32)) &&& (1431655765 : Int32))) &&& (858993459 : Int32)) + ((zu (x - ((zu x (1 : Int32)) &&& (1431655765 : Int32))) (2 : Int32)) &&& (858993459 : Int32))) + (zu (((x - ((zu x (1 : Int32)) &&& (1431655765 : Int32))) &&& (858993459 : Int32)) + ((zu (x - ((zu x (1 : Int32)) &&& (1431655765 : Int32))) (2 : Int32)) &&& (858993459 : Int32))) (4 : Int32))) &&& (252645135 : Int32)) (8 : Int32))) (16 : Int32))))]) hx hb d_pop_47 rfl hl (by decide) rfl (fun ls hl => ?_)
  refine lv_iload_n hx hb d_pop_48 rfl (lv_at hl 0 rfl) ?_
  refine lv_bipush (v := (63 : Int32)) hx hb d_pop_49 (by decide) ?_
  refine lv_iand hx hb d_pop_51 ?_
  exact W.iret (v := (((((((x - ((zu x (1 : Int32)) &&& (1431655765 : Int32))) &&& (858993459 : Int32)) + ((zu (x - ((zu x (1 : Int32)) &&& (1431655765 : Int32))) (2 : Int32)) &&& (858993459 : Int32))) + (zu (((x - ((zu x (1 : Int32)) &&& (1431655765 : Int32))) &&& (858993459 : Int32)) + ((zu (x - ((zu x (1 : Int32)) &&& (1431655765 : Int32))) (2 : Int32)) &&& (858993459 : Int32))) (4 : Int32))) &&& (252645135 : Int32)) + (zu (((((x - ((zu x (1 : Int32)) &&& (1431655765 : Int32))) &&& (858993459 : Int32)) + ((zu (x - ((zu x (1 : Int32)) &&& (1431655765 : Int32))) (2 : Int32)) &&& (858993459 : Int32))) + (zu (((x - ((zu x (1 : Int32)) &&& (1431655765 : Int32))) &&& (858993459 : Int32)) + ((zu (x - ((zu x (1 : Int32)) &&& (1431655765 : Int32))) (2 : Int32)) &&& (858993459 : Int32))) (4 : Int32))) &&& (252645135 : Int32)) (8 : Int32))) + (zu ((((((x - ((zu x (1 : Int32)) &&& (1431655765 : Int32))) &&& (858993459 : Int32)) + ((zu (x - ((zu x (1 : Int32)) &&& (1431655765 : Int32))) (2 : Int32)) &&& (858993459 : Int32))) + (zu (((x - ((zu x (1 : Int32)) &&& (1431655765 : Int32))) &&& (858993459 : Int32)) + ((zu (x - ((zu x (1 : Int32)) &&& (1431655765 : Int32))) (2 : Int32)) &&& (858993459 : Int32))) (4 : Int32))) &&& (252645135 : Int32)) + (zu (((((x - ((zu x (1 : Int32)) &&& (1431655765 : Int32))) &&& (858993459 : Int32)) + ((zu (x - ((zu x (1 : Int32)) &&& (1431655765 : Int32))) (2 : Int32)) &&& (858993459 : Int32))) + (zu (((x - ((zu x (1 : Int32)) &&& (1431655765 : Int32))) &&& (858993459 : Int32)) + ((zu (x - ((zu x (1 : Int32)) &&& (1431655765 : Int32))) (2 : Int32)) &&& (858993459 : Int32))) (4 : Int32))) &&& (252645135 : Int32)) (8 : Int32))) (16 : Int32))) &&& (63 : Int32)) hx hb hr (fun t9 ht9 hW9 => ⟨⟨(((((((x - ((zu x (1 : Int32)) &&& (1431655765 : Int32))) &&& (858993459 : Int32)) + ((zu (x - ((zu x (1 : Int32)) &&& (1431655765 : Int32))) (2 : Int32)) &&& (858993459 : Int32))) + (zu (((x - ((zu x (1 : Int32)) &&& (1431655765 : Int32))) &&& (858993459 : Int32)) + ((zu (x - ((zu x (1 : Int32)) &&& (1431655765 : Int32))) (2 : Int32)) &&& (858993459 : Int32))) (4 : Int32))) &&& (252645135 : Int32)) + (zu (((((x - ((zu x (1 : Int32)) &&& (1431655765 : Int32))) &&& (858993459 : Int32)) + ((zu (x - ((zu x (1 : Int32)) &&& (1431655765 : Int32))) (2 : Int32)) &&& (858993459 : Int32))) + (zu (((x - ((zu x (1 : Int32)) &&& (1431655765 : Int32))) &&& (858993459 : Int32)) + ((zu (x - ((zu x (1 : Int32)) &&& (1431655765 : Int32))) (2 : Int32)) &&& (858993459 : Int32))) (4 : Int32))) &&& (252645135 : Int32)) (8 : Int32))) + (zu ((((((x - ((zu x (1 : Int32)) &&& (1431655765 : Int32))) &&& (858993459 : Int32)) + ((zu (x - ((zu x (1 : Int32)) &&& (1431655765 : Int32))) (2 : Int32)) &&& (858993459 : Int32))) + (zu (((x - ((zu x (1 : Int32)) &&& (1431655765 : Int32))) &&& (858993459 : Int32)) + ((zu (x - ((zu x (1 : Int32)) &&& (1431655765 : Int32))) (2 : Int32)) &&& (858993459 : Int32))) (4 : Int32))) &&& (252645135 : Int32)) + (zu (((((x - ((zu x (1 : Int32)) &&& (1431655765 : Int32))) &&& (858993459 : Int32)) + ((zu (x - ((zu x (1 : Int32)) &&& (1431655765 : Int32))) (2 : Int32)) &&& (858993459 : Int32))) + (zu (((x - ((zu x (1 : Int32)) &&& (1431655765 : Int32))) &&& (858993459 : Int32)) + ((zu (x - ((zu x (1 : Int32)) &&& (1431655765 : Int32))) (2 : Int32)) &&& (858993459 : Int32))) (4 : Int32))) &&& (252645135 : Int32)) (8 : Int32))) (16 : Int32))) &&& (63 : Int32), (), rfl, z_pop x, by rw [ht9]; exact hP, va_K.moved hW9.alike hK, hD⟩, hS.F ht9⟩) hS.2.2 d_pop_52
end
section
set_option maxHeartbeats 4000000 in
set_option maxRecDepth 100000 in
/-- bitOf(k) -/
theorem c_bitOf (l : Launch) (dC : Nat → ClassId) (dI : Nat → Nat → Nat)  (sz : Nat) (k : Nat) (g0 : k < 2147483648) : Met l y_X_bitOf ws_X_bitOf ({ frames := 0, cells := 0, slots := 0, locals := 0 }) (va_Pc [.int (nI k)] (cc_P (dC, dI) vwCl ([] : va_W) [] sz)) (va_Qi (S := Unit) (fun (r : Int32) (_ : Unit) => r = (1 : Int32) <<< (nI (k % 32) &&& 31)) (fun u t => cc_B (dC, dI) vwCl [] (va_A ([] : va_W) sz) ((fun _ : Unit => ([] : va_W)) u) t) (va_A ([] : va_W) sz)) 0 0 (va_A ([] : va_W) sz) := by
  refine Met.ofW (cc := c_X_bitOf) (maxL := 1) (ret := (some .int)) (by decide) rfl ?_
  intro p e s m args below meth c s₁ B hml hv
  obtain ⟨rfl, hsz, hP, hK, hD0⟩ := hv
  have hx := B.exec
  have hb := B.bytes
  have hr := B.returns
  have hts : ∀ w ∈ zAll, w.before _ s = true := fun w h => atoms_spec (ws := ws_X_bitOf) B.pre w (List.mem_cons_of_mem _ h)
  have hown : s.vm.findClass RX = some m.cls := findClass_of_methodNamed B.named
  have hlocks := B.notSynchronized
  subst hsz
  have hD := hD0.self (sz := s.heap.size)
  generalize hAe : va_A ([] : va_W) s.heap.size = A at hD ⊢
  have hA : ∀ q : Nat, s.heap.size ≤ q → A q := fun q h => by rw [← hAe]; exact Or.inr h
  have hS : va_S A s.heap s.heap [] := va_S.rf
  replace hP : va_P (dC, dI) vwCl [] s.heap := hP
  replace hD : va_D A [] := hD
  have hl := lv_entry ([.int (nI k)]) (n := 1) (Nat.le_of_ble_eq_true rfl)
  rw [lg_entry_eq]
  generalize (lg_sl ([.int (nI k)]) ++ List.replicate (1 - (lg_sl ([.int (nI k)])).length) Slot.unset).toArray = ls at hl ⊢
  replace hl : lv_has ls 1 [(0, .int (nI k))] := hl
  refine lv_iconst (v := (1 : Int32)) hx hb d_X_bitOf_0 (by decide) ?_
  refine lv_iload_n hx hb d_X_bitOf_1 rfl (lv_at hl 0 rfl) ?_
  refine lv_bipush (v := nI 32) hx hb d_X_bitOf_2 (by decide) ?_
  refine lv_irem hx hb d_X_bitOf_4 (by decide) ?_
  refine lv_topi (nm_r (show _ = nI (k % 32) from pk_rem (by omega) (by omega) (by omega)) ?_)
  refine lv_ishl hx hb d_X_bitOf_5 ?_
  exact W.iret (v := (1 : Int32) <<< ((nI (k % 32)) &&& 31)) hx hb hr (fun t9 ht9 hW9 => ⟨⟨(1 : Int32) <<< ((nI (k % 32)) &&& 31), (), rfl, rfl, by rw [ht9]; exact hP, va_K.moved hW9.alike hK, hD⟩, hS.F ht9⟩) hS.2.2 d_X_bitOf_6
set_option maxHeartbeats 4000000 in
set_option maxRecDepth 100000 in
/-- cardCount() -/
theorem c_cardCount (l : Launch) (dC : Nat → ClassId) (dI : Nat → Nat → Nat) (h0 h1 h2 : Nat) (cA cB : ClassId) (sz : Nat) (M S : Nat → Int32) (nn : Nat) (pv : Int32) (g0 : nn ≤ 16384) : Met l y_X_cardCount ws_X_cardCount ({ frames := 0, cells := 0, slots := 0, locals := 0 }) (va_Pc [.ref h0] (cc_P (dC, dI) vwCl (wX h0 h1 h2 cA cB M S (nI nn) pv) (tX cA cB) sz)) (va_Qi (S := Unit) (fun (r : Int32) (_ : Unit) => r = nI ((nn + 31) / 32)) (fun u t => cc_B (dC, dI) vwCl (tX cA cB) (va_A (wX h0 h1 h2 cA cB M S (nI nn) pv) sz) ((fun _ : Unit => (wX h0 h1 h2 cA cB M S (nI nn) pv)) u) t) (va_A (wX h0 h1 h2 cA cB M S (nI nn) pv) sz)) 0 0 (va_A (wX h0 h1 h2 cA cB M S (nI nn) pv) sz) := by
  refine Met.ofW (cc := c_X_cardCount) (maxL := 1) (ret := (some .int)) (by decide) rfl ?_
  intro p e s m args below meth c s₁ B hml hv
  obtain ⟨rfl, hsz, hP, hK, hD0⟩ := hv
  have hx := B.exec
  have hb := B.bytes
  have hr := B.returns
  have hts : ∀ w ∈ zAll, w.before _ s = true := fun w h => atoms_spec (ws := ws_X_cardCount) B.pre w (List.mem_cons_of_mem _ h)
  have hown : s.vm.findClass RX = some m.cls := findClass_of_methodNamed B.named
  have hlocks := B.notSynchronized
  subst hsz
  have hD := hD0.self (sz := s.heap.size)
  generalize hAe : va_A (wX h0 h1 h2 cA cB M S (nI nn) pv) s.heap.size = A at hD ⊢
  have hA : ∀ q : Nat, s.heap.size ≤ q → A q := fun q h => by rw [← hAe]; exact Or.inr h
  have hS : va_S A s.heap s.heap [] := va_S.rf
  replace hP : va_P (dC, dI) vwCl [(h0, .inr (0, [.ref h1, .ref h2, .int (nI nn), .int pv])), (h1, .inl (cA, 512, .inl M)), (h2, .inl (cB, 512, .inl S))] s.heap := hP
  replace hD : va_D A [(h0, .inr (0, [.ref h1, .ref h2, .int (nI nn), .int pv])), (h1, .inl (cA, 512, .inl M)), (h2, .inl (cB, 512, .inl S))] := hD
  have hl := lv_entry ([.ref h0]) (n := 1) (Nat.le_of_ble_eq_true rfl)
  rw [lg_entry_eq]
  generalize (lg_sl ([.ref h0]) ++ List.replicate (1 - (lg_sl ([.ref h0])).length) Slot.unset).toArray = ls at hl ⊢
  replace hl : lv_has ls 1 [(0, .ref h0)] := hl
  refine lv_aload_n hx hb d_X_cardCount_0 rfl (lv_at hl 0 rfl) ?_
  refine va_get (D := (dC, dI)) (ci := 0) (v := .int (nI nn)) (C := RX) (T := TX) (N := 4) hx hb hts inX hown hK hP 0 rfl rfl 2 (by decide) (hts _ wl_X_27) (fun _ h9 => h9) rfl d_X_cardCount_1 ?_
  refine lv_bipush (v := nI 32) hx hb d_X_cardCount_4 (by decide) ?_
  refine lv_iadd hx hb d_X_cardCount_6 ?_
  refine lv_topi (nm_r (show _ = nI (nn + 32) from nI_add _ _) ?_)
  refine lv_iconst (v := nI 1) hx hb d_X_cardCount_7 (by decide) ?_
  refine lv_isub hx hb d_X_cardCount_8 ?_
  refine lv_topi (nm_r (show _ = nI ((nn + 32) - 1) from pk_sub (by omega)) ?_)
  refine lv_bipush (v := nI 32) hx hb d_X_cardCount_9 (by decide) ?_
  refine lv_idiv hx hb d_X_cardCount_11 (by decide) ?_
  refine lv_topi (nm_r (show _ = nI (((nn + 32) - 1) / 32) from pk_div (by omega) (by omega) (by omega)) ?_)
  exact W.iret (v := nI (((nn + 32) - 1) / 32)) hx hb hr (fun t9 ht9 hW9 => ⟨⟨nI (((nn + 32) - 1) / 32), (), rfl, congrArg nI (by omega), by rw [ht9]; exact hP, va_K.moved hW9.alike hK, hD⟩, hS.F ht9⟩) hS.2.2 d_X_cardCount_12
set_option maxHeartbeats 4000000 in
set_option maxRecDepth 100000 in
/-- beginOf(k) -/
theorem c_beginOf (l : Launch) (dC : Nat → ClassId) (dI : Nat → Nat → Nat) (h0 h1 h2 : Nat) (cA cB : ClassId) (sz : Nat) (M S : Nat → Int32) (nn : Nat) (pv : Int32) (k : Nat) (g0 : k < 16384) (g1 : zm M 0 = true) (g2 : S (k / 32) = nI (zb (zm M) (32 * (k / 32)))) : Met l y_X_beginOf ws_X_beginOf ({ frames := 1, cells := 0, slots := 0, locals := 21 }) (va_Pc [.ref h0, .int (nI k)] (cc_P (dC, dI) vwCl (wX h0 h1 h2 cA cB M S (nI nn) pv) (tX cA cB) sz)) (va_Qi (S := Unit) (fun (r : Int32) (_ : Unit) => r = nI (zb (zm M) k)) (fun u t => cc_B (dC, dI) vwCl (tX cA cB) (va_A (wX h0 h1 h2 cA cB M S (nI nn) pv) sz) ((fun _ : Unit => (wX h0 h1 h2 cA cB M S (nI nn) pv)) u) t) (va_A (wX h0 h1 h2 cA cB M S (nI nn) pv) sz)) 0 0 (va_A (wX h0 h1 h2 cA cB M S (nI nn) pv) sz) := by
  refine Met.ofW (cc := c_X_beginOf) (maxL := 5) (ret := (some .int)) (by decide) rfl ?_
  intro p e s m args below meth c s₁ B hml hv
  obtain ⟨rfl, hsz, hP, hK, hD0⟩ := hv
  have hx := B.exec
  have hb := B.bytes
  have hr := B.returns
  have hts : ∀ w ∈ zAll, w.before _ s = true := fun w h => atoms_spec (ws := ws_X_beginOf) B.pre w (List.mem_cons_of_mem _ h)
  have hown : s.vm.findClass RX = some m.cls := findClass_of_methodNamed B.named
  have hlocks := B.notSynchronized
  subst hsz
  have hD := hD0.self (sz := s.heap.size)
  generalize hAe : va_A (wX h0 h1 h2 cA cB M S (nI nn) pv) s.heap.size = A at hD ⊢
  have hA : ∀ q : Nat, s.heap.size ≤ q → A q := fun q h => by rw [← hAe]; exact Or.inr h
  have hS : va_S A s.heap s.heap [] := va_S.rf
  replace hP : va_P (dC, dI) vwCl [(h0, .inr (0, [.ref h1, .ref h2, .int (nI nn), .int pv])), (h1, .inl (cA, 512, .inl M)), (h2, .inl (cB, 512, .inl S))] s.heap := hP
  replace hD : va_D A [(h0, .inr (0, [.ref h1, .ref h2, .int (nI nn), .int pv])), (h1, .inl (cA, 512, .inl M)), (h2, .inl (cB, 512, .inl S))] := hD
  have hl := lv_entry ([.ref h0, .int (nI k)]) (n := 5) (Nat.le_of_ble_eq_true rfl)
  rw [lg_entry_eq]
  generalize (lg_sl ([.ref h0, .int (nI k)]) ++ List.replicate (5 - (lg_sl ([.ref h0, .int (nI k)])).length) Slot.unset).toArray = ls at hl ⊢
  replace hl : lv_has ls 5 [(0, .ref h0), (1, .int (nI k))] := hl
  refine lv_iload_n hx hb d_X_beginOf_0 rfl (lv_at hl 1 rfl) ?_
  refine lv_bipush (v := nI 32) hx hb d_X_beginOf_1 (by decide) ?_
  refine lv_idiv hx hb d_X_beginOf_3 (by decide) ?_
  refine lv_topi (nm_r (show _ = nI (k / 32) from pk_div (by omega) (by omega) (by omega)) ?_)
  refine lv_istore_n (lv' := [(2, .int (nI (k / 32))), (0, .ref h0), (1, .int (nI k))]) hx hb d_X_beginOf_4 rfl hl (by decide) rfl (fun ls hl => ?_)
  refine lv_iconst (v := (-1 : Int32)) hx hb d_X_beginOf_5 (by decide) ?_
  refine lv_bipush (v := nI 31) hx hb d_X_beginOf_6 (by decide) ?_
  refine lv_iload_n hx hb d_X_beginOf_8 rfl (lv_at hl 2 rfl) ?_
  refine lv_bipush (v := nI 32) hx hb d_X_beginOf_9 (by decide) ?_
  refine lv_irem hx hb d_X_beginOf_11 (by decide) ?_
  refine lv_topi (nm_r (show _ = nI (k % 32) from pk_rem (by omega) (by omega) (by omega)) ?_)
  refine lv_isub hx hb d_X_beginOf_12 ?_
  refine lv_topi (nm_r (show _ = nI (31 - (k % 32)) from pk_sub (by omega)) ?_)
  refine lv_iushr (v := zu (-1 : Int32) (nI (31 - (k % 32)))) hx hb d_X_beginOf_13 rfl ?_
  refine lv_istore_n (lv' := [(3, .int (zu (-1 : Int32) (nI (31 - (k % 32))))), (2, .int (nI (k / 32))), (0, .ref h0), (1, .int (nI k))]) hx hb d_X_beginOf_14 rfl hl (by decide) rfl (fun ls hl => ?_)
  refine lv_aload_n hx hb d_X_beginOf_15 rfl (lv_at hl 2 rfl) ?_
  refine va_get (D := (dC, dI)) (ci := 0) (v := .ref h1) (C := RX) (T := TX) (N := 4) hx hb hts inX hown hK hP 0 rfl rfl 0 (by decide) (hts _ wl_X_9) (fun _ h9 => h9) rfl d_X_beginOf_16 ?_
  refine lv_iload_n hx hb d_X_beginOf_19 rfl (lv_at hl 1 rfl) ?_
  refine va_iald hx hb hK hP 1 0 rfl rfl (vp_in_nI (by omega) (by decide)) d_X_beginOf_20 ?_
  refine lv_topi (nm_r (show _ = M (k / 32) from by rw [nI_clamp (by omega)]) ?_)
  refine lv_iload_n hx hb d_X_beginOf_21 rfl (lv_at hl 0 rfl) ?_
  refine lv_iand hx hb d_X_beginOf_22 ?_
  refine lv_istore (lv' := [(4, .int ((M (k / 32)) &&& (zu (-1 : Int32) (nI (31 - (k % 32)))))), (3, .int (zu (-1 : Int32) (nI (31 - (k % 32))))), (2, .int (nI (k / 32))), (0, .ref h0), (1, .int (nI k))]) hx hb d_X_beginOf_23 hl (by decide) rfl (fun ls hl => ?_)
  refine lv_iload hx hb d_X_beginOf_25 (lv_at hl 0 rfl) ?_
  refine lv_if_ne (tgt := 37) hx hb d_X_beginOf_27 (by decide) (fun c1 => ?_) (fun c1 => ?_)
  · obtain ⟨t, t1, t2, t3⟩ := z_top c1
    refine lv_iload_n hx hb d_X_beginOf_37 rfl (lv_at hl 2 rfl) ?_
    refine lv_bipush (v := nI 32) hx hb d_X_beginOf_38 (by decide) ?_
    refine lv_imul hx hb d_X_beginOf_40 ?_
    refine lv_topi (nm_r (show _ = nI ((k / 32) * 32) from pk_mul _ _) ?_)
    refine lv_bipush (v := nI 32) hx hb d_X_beginOf_41 (by decide) ?_
    refine lv_iadd hx hb d_X_beginOf_43 ?_
    refine lv_topi (nm_r (show _ = nI (((k / 32) * 32) + 32) from nI_add _ _) ?_)
    refine lv_iconst (v := nI 1) hx hb d_X_beginOf_44 (by decide) ?_
    refine lv_isub hx hb d_X_beginOf_45 ?_
    refine lv_topi (nm_r (show _ = nI ((((k / 32) * 32) + 32) - 1) from pk_sub (by omega)) ?_)
    refine lv_iload hx hb d_X_beginOf_46 (lv_at hl 0 rfl) ?_
    refine cc_Si (wc := []) (wr := [(h0, .inr (0, [.ref h1, .ref h2, .int (nI nn), .int pv])), (h1, .inl (cA, 512, .inl M)), (h2, .inl (cB, 512, .inl S))]) (tys' := []) ⟨hx, hb, hml, hown, hts⟩ hP hD hK hS hA [] [0, 1, 2] [] rfl rfl rfl (by decide) (by decide) (by decide) rfl (k_nlz l dC dI _ _ t t1 t2 t3) (va_cwS 1 hts g_X_84 rfl rfl rfl (by decide +kernel) ⟨Nat.le_of_ble_eq_true rfl, Nat.le_of_ble_eq_true rfl⟩) rfl hl.1 rfl (Nat.le_of_ble_eq_true rfl) d_X_beginOf_48 ⟨Nat.le_of_ble_eq_true rfl, Nat.le_of_ble_eq_true rfl⟩ (fun r_9 u H locs hw hP hD hS => ?_)
    replace hP : va_P (dC, dI) vwCl [(h0, .inr (0, [.ref h1, .ref h2, .int (nI nn), .int pv])), (h1, .inl (cA, 512, .inl M)), (h2, .inl (cB, 512, .inl S))] H := hP
    replace hD : va_D A [(h0, .inr (0, [.ref h1, .ref h2, .int (nI nn), .int pv])), (h1, .inl (cA, 512, .inl M)), (h2, .inl (cB, 512, .inl S))] := hD
    subst hw
    refine lv_isub hx hb d_X_beginOf_51 ?_
    refine lv_topi (nm_r (show _ = nI (((((k / 32) * 32) + 32) - 1) - (31 - t)) from pk_sub (by omega)) ?_)
    exact W.iret (v := nI (((((k / 32) * 32) + 32) - 1) - (31 - t))) hx hb hr (fun t9 ht9 hW9 => ⟨⟨nI (((((k / 32) * 32) + 32) - 1) - (31 - t)), (), rfl, congrArg nI (by have z9 := z_beg1 t1 t2 t3; omega), by rw [ht9]; exact hP, va_K.moved hW9.alike hK, hD⟩, hS.F ht9⟩) hS.2.2 d_X_beginOf_52
  · refine lv_aload_n hx hb d_X_beginOf_30 rfl (lv_at hl 3 rfl) ?_
    refine va_get (D := (dC, dI)) (ci := 0) (v := .ref h2) (C := RX) (T := TX) (N := 4) hx hb hts inX hown hK hP 0 rfl rfl 1 (by decide) (hts _ wl_X_13) (fun _ h9 => h9) rfl d_X_beginOf_31 ?_
    refine lv_iload_n hx hb d_X_beginOf_34 rfl (lv_at hl 2 rfl) ?_
    refine va_iald hx hb hK hP 2 1 rfl rfl (vp_in_nI (by omega) (by decide)) d_X_beginOf_35 ?_
    refine lv_topi (nm_r (show _ = S (k / 32) from by rw [nI_clamp (by omega)]) ?_)
    exact W.iret (v := S (k / 32)) hx hb hr (fun t9 ht9 hW9 => ⟨⟨S (k / 32), (), rfl, g2.trans (congrArg nI (z_beg0 g1 c1).symm), by rw [ht9]; exact hP, va_K.moved hW9.alike hK, hD⟩, hS.F ht9⟩) hS.2.2 d_X_beginOf_36
set_option maxHeartbeats 4000000 in
set_option maxRecDepth 100000 in
/-- firstBeginFrom(k) -/
theorem c_firstBeginFrom (l : Launch) (dC : Nat → ClassId) (dI : Nat → Nat → Nat) (h0 h1 h2 : Nat) (cA cB : ClassId) (sz : Nat) (M S : Nat → Int32) (nn : Nat) (pv : Int32) (k : Nat) (g0 : k ≤ nn) (g1 : nn ≤ 16384) (g2 : ∀ j, nn ≤ j → j < 16384 → zm M j = false) : Met l y_X_firstBeginFrom ws_X_firstBeginFrom ({ frames := 1, cells := 0, slots := 0, locals := 21 }) (va_Pc [.ref h0, .int (nI k)] (cc_P (dC, dI) vwCl (wX h0 h1 h2 cA cB M S (nI nn) pv) (tX cA cB) sz)) (va_Qi (S := Unit) (fun (r : Int32) (_ : Unit) => r = nI (zn (zm M) nn k)) (fun u t => cc_B (dC, dI) vwCl (tX cA cB) (va_A (wX h0 h1 h2 cA cB M S (nI nn) pv) sz) ((fun _ : Unit => (wX h0 h1 h2 cA cB M S (nI nn) pv)) u) t) (va_A (wX h0 h1 h2 cA cB M S (nI nn) pv) sz)) 0 0 (va_A (wX h0 h1 h2 cA cB M S (nI nn) pv) sz) := by
  refine Met.ofW (cc := c_X_firstBeginFrom) (maxL := 6) (ret := (some .int)) (by decide) rfl ?_
  intro p e s m args below meth c s₁ B hml hv
  obtain ⟨rfl, hsz, hP, hK, hD0⟩ := hv
  have hx := B.exec
  have hb := B.bytes
  have hr := B.returns
  have hts : ∀ w ∈ zAll, w.before _ s = true := fun w h => atoms_spec (ws := ws_X_firstBeginFrom) B.pre w (List.mem_cons_of_mem _ h)
  have hown : s.vm.findClass RX = some m.cls := findClass_of_methodNamed B.named
  have hlocks := B.notSynchronized
  subst hsz
  have hD := hD0.self (sz := s.heap.size)
  generalize hAe : va_A (wX h0 h1 h2 cA cB M S (nI nn) pv) s.heap.size = A at hD ⊢
  have hA : ∀ q : Nat, s.heap.size ≤ q → A q := fun q h => by rw [← hAe]; exact Or.inr h
  have hS : va_S A s.heap s.heap [] := va_S.rf
  replace hP : va_P (dC, dI) vwCl [(h0, .inr (0, [.ref h1, .ref h2, .int (nI nn), .int pv])), (h1, .inl (cA, 512, .inl M)), (h2, .inl (cB, 512, .inl S))] s.heap := hP
  replace hD : va_D A [(h0, .inr (0, [.ref h1, .ref h2, .int (nI nn), .int pv])), (h1, .inl (cA, 512, .inl M)), (h2, .inl (cB, 512, .inl S))] := hD
  have hl := lv_entry ([.ref h0, .int (nI k)]) (n := 6) (Nat.le_of_ble_eq_true rfl)
  rw [lg_entry_eq]
  generalize (lg_sl ([.ref h0, .int (nI k)]) ++ List.replicate (6 - (lg_sl ([.ref h0, .int (nI k)])).length) Slot.unset).toArray = ls at hl ⊢
  replace hl : lv_has ls 6 [(0, .ref h0), (1, .int (nI k))] := hl
  refine lv_iconst (v := (-1 : Int32)) hx hb d_X_firstBeginFrom_0 (by decide) ?_
  refine lv_iload_n hx hb d_X_firstBeginFrom_1 rfl (lv_at hl 1 rfl) ?_
  refine lv_bipush (v := nI 32) hx hb d_X_firstBeginFrom_2 (by decide) ?_
  refine lv_irem hx hb d_X_firstBeginFrom_4 (by decide) ?_
  refine lv_topi (nm_r (show _ = nI (k % 32) from pk_rem (by omega) (by omega) (by omega)) ?_)
  refine lv_ishl hx hb d_X_firstBeginFrom_5 ?_
  refine lv_istore_n (lv' := [(2, .int ((-1 : Int32) <<< ((nI (k % 32)) &&& 31))), (0, .ref h0), (1, .int (nI k))]) hx hb d_X_firstBeginFrom_6 rfl hl (by decide) rfl (fun ls hl => ?_)
  refine lv_aload_n hx hb d_X_firstBeginFrom_7 rfl (lv_at hl 1 rfl) ?_
  refine cc_Vi (wc := [(h0, .inr (0, [.ref h1, .ref h2, .int (nI nn), .int pv])), (h1, .inl (cA, 512, .inl M)), (h2, .inl (cB, 512, .inl S))]) (wr := []) (tys' := [(cA, .int), (cB, .int)]) ⟨hx, hb, hml, hown, hts⟩ hP hD hK hS hA [0, 1, 2] [] [0, 1] rfl rfl rfl (by decide) (by decide) (by decide) rfl (c_cardCount l dC dI h0 h1 h2 cA cB _ M S nn pv g1) (cwV 0 hts g_X_64 rfl rfl rfl (by decide +kernel) ⟨Nat.le_of_ble_eq_true rfl, Nat.le_of_ble_eq_true rfl⟩) 0 0 rfl rfl rfl rfl hl.1 rfl (Nat.le_of_ble_eq_true rfl) d_X_firstBeginFrom_8 ⟨Nat.le_of_ble_eq_true rfl, Nat.le_of_ble_eq_true rfl⟩ (fun r_9 u H locs hw hP hD hS => ?_)
  replace hP : va_P (dC, dI) vwCl [(h0, .inr (0, [.ref h1, .ref h2, .int (nI nn), .int pv])), (h1, .inl (cA, 512, .inl M)), (h2, .inl (cB, 512, .inl S))] H := hP
  replace hD : va_D A [(h0, .inr (0, [.ref h1, .ref h2, .int (nI nn), .int pv])), (h1, .inl (cA, 512, .inl M)), (h2, .inl (cB, 512, .inl S))] := hD
  subst hw
  refine lv_istore_n (lv' := [(3, .int (nI ((nn + 31) / 32))), (2, .int ((-1 : Int32) <<< ((nI (k % 32)) &&& 31))), (0, .ref h0), (1, .int (nI k))]) hx hb d_X_firstBeginFrom_11 rfl hl (by decide) rfl (fun ls hl => ?_)
  refine lv_iload_n hx hb d_X_firstBeginFrom_12 rfl (lv_at hl 3 rfl) ?_
  refine lv_bipush (v := nI 32) hx hb d_X_firstBeginFrom_13 (by decide) ?_
  refine lv_idiv hx hb d_X_firstBeginFrom_15 (by decide) ?_
  refine lv_topi (nm_r (show _ = nI (k / 32) from pk_div (by omega) (by omega) (by omega)) ?_)
  refine lv_istore (lv' := [(4, .int (nI (k / 32))), (3, .int (nI ((nn + 31) / 32))), (2, .int ((-1 : Int32) <<< ((nI (k % 32)) &&& 31))), (0, .ref h0), (1, .int (nI k))]) hx hb d_X_firstBeginFrom_16 hl (by decide) rfl (fun ls hl => ?_)
  refine cc_from hP hD hS (fun H locs hP hD hS => ?_)
  obtain ⟨card, e_card⟩ : ∃ card : Nat, card = k / 32 := ⟨_, rfl⟩
  obtain ⟨wv, e_wv⟩ : ∃ wv : Int32, wv = (-1 : Int32) <<< ((nI (k % 32)) &&& 31) := ⟨_, rfl⟩
  replace hl : lv_has ls 6 [(0, .ref h0), (1, .int (nI k)), (2, .int wv), (3, .int (nI ((nn + 31) / 32))), (4, .int (nI card))] := by (subst e_card; subst e_wv; exact lv_sub hl [3, 4, 2, 1, 0] rfl)
  have hI : zI M k card wv := by (subst e_card; subst e_wv; exact zI_0 M k)
  have hcd : card ≤ 513 := by (subst e_card; subst e_wv; omega)
  clear e_card e_wv
  obtain ⟨f9, hf9⟩ : ∃ f9 : Nat, 600 - card < f9 := ⟨_, Nat.lt_succ_self _⟩
  induction f9 generalizing ls H locs card wv with
  | zero => exact absurd hf9 (Nat.not_lt_zero _)
  | succ f9 ih =>
    refine lv_iload hx hb d_X_firstBeginFrom_18 (lv_at hl 4 rfl) ?_
    refine lv_iload_n hx hb d_X_firstBeginFrom_20 rfl (lv_at hl 3 rfl) ?_
    refine lv_icmp_ge (tgt := 60) hx hb d_X_firstBeginFrom_21 (by decide) (fun c1 => ?_) (fun c1 => ?_)
    · replace c1 : (nn + 31) / 32 ≤ card := (nI_leI (a := (nn + 31) / 32) (b := card) (by omega) (by omega)).mp c1
      refine lv_aload_n hx hb d_X_firstBeginFrom_60 rfl (lv_at hl 0 rfl) ?_
      refine va_get (D := (dC, dI)) (ci := 0) (v := .int (nI nn)) (C := RX) (T := TX) (N := 4) hx hb hts inX hown hK hP 0 rfl rfl 2 (by decide) (hts _ wl_X_27) (fun _ h9 => h9) rfl d_X_firstBeginFrom_61 ?_
      exact W.iret (v := nI nn) hx hb hr (fun t9 ht9 hW9 => ⟨⟨nI nn, (), rfl, congrArg nI (zI_end hI g0 c1).symm, by rw [ht9]; exact hP, va_K.moved hW9.alike hK, hD⟩, hS.F ht9⟩) hS.2.2 d_X_firstBeginFrom_64
    · replace c1 : ¬ ((nn + 31) / 32 ≤ card) := fun h9 => c1 ((nI_leI (a := (nn + 31) / 32) (b := card) (by omega) (by omega)).mpr h9)
      refine lv_aload_n hx hb d_X_firstBeginFrom_24 rfl (lv_at hl 0 rfl) ?_
      refine va_get (D := (dC, dI)) (ci := 0) (v := .ref h1) (C := RX) (T := TX) (N := 4) hx hb hts inX hown hK hP 0 rfl rfl 0 (by decide) (hts _ wl_X_9) (fun _ h9 => h9) rfl d_X_firstBeginFrom_25 ?_
      refine lv_iload hx hb d_X_firstBeginFrom_28 (lv_at hl 4 rfl) ?_
      refine va_iald hx hb hK hP 1 0 rfl rfl (vp_in_nI (by omega) (by decide)) d_X_firstBeginFrom_30 ?_
      refine lv_topi (nm_r (show _ = M card from by rw [nI_clamp (by omega)]) ?_)
      refine lv_iload_n hx hb d_X_firstBeginFrom_31 rfl (lv_at hl 2 rfl) ?_
      refine lv_iand hx hb d_X_firstBeginFrom_32 ?_
      refine lv_istore (lv' := [(5, .int ((M card) &&& wv)), (0, .ref h0), (1, .int (nI k)), (2, .int wv), (3, .int (nI ((nn + 31) / 32))), (4, .int (nI card))]) hx hb d_X_firstBeginFrom_33 hl (by decide) rfl (fun ls hl => ?_)
      refine lv_iload hx hb d_X_firstBeginFrom_35 (lv_at hl 0 rfl) ?_
      refine lv_if_eq (tgt := 52) hx hb d_X_firstBeginFrom_37 (by decide) (fun c2 => ?_) (fun c2 => ?_)
      · have hI2 : zI M k (card + 1) (-1) := zI_s hI c2
        refine lv_iconst (v := (-1 : Int32)) hx hb d_X_firstBeginFrom_52 (by decide) ?_
        refine lv_istore_n (lv' := [(2, .int (-1 : Int32)), (5, .int ((M card) &&& wv)), (0, .ref h0), (1, .int (nI k)), (3, .int (nI ((nn + 31) / 32))), (4, .int (nI card))]) hx hb d_X_firstBeginFrom_53 rfl hl (by decide) rfl (fun ls hl => ?_)
        refine lv_iinc (v := nI (card + 1)) (lv' := [(4, .int (nI (card + 1))), (2, .int (-1 : Int32)), (5, .int ((M card) &&& wv)), (0, .ref h0), (1, .int (nI k)), (3, .int (nI ((nn + 31) / 32)))]) hx hb d_X_firstBeginFrom_54 hl (k := 5) rfl (nI_1 _) (by decide) rfl (fun ls hl => ?_)
        refine lv_goto (tgt := 18) hx hb d_X_firstBeginFrom_57 (by decide) ?_
        apply ih (ls := ls) (H := H) (locs := locs) (card := card + 1) (wv := -1) <;> first | assumption | exact lv_sub hl [3, 4, 1, 5, 0] rfl | omega
      · obtain ⟨t, t1, t2, t3⟩ := z_low c2
        refine lv_iload hx hb d_X_firstBeginFrom_40 (lv_at hl 5 rfl) ?_
        refine lv_bipush (v := nI 32) hx hb d_X_firstBeginFrom_42 (by decide) ?_
        refine lv_imul hx hb d_X_firstBeginFrom_44 ?_
        refine lv_topi (nm_r (show _ = nI (card * 32) from pk_mul _ _) ?_)
        refine lv_iload hx hb d_X_firstBeginFrom_45 (lv_at hl 0 rfl) ?_
        refine cc_Si (wc := []) (wr := [(h0, .inr (0, [.ref h1, .ref h2, .int (nI nn), .int pv])), (h1, .inl (cA, 512, .inl M)), (h2, .inl (cB, 512, .inl S))]) (tys' := []) ⟨hx, hb, hml, hown, hts⟩ hP hD hK hS hA [] [0, 1, 2] [] rfl rfl rfl (by decide) (by decide) (by decide) rfl (k_ntz l dC dI _ _ t t1 t2 t3) (va_cwS 1 hts g_X_90 rfl rfl rfl (by decide +kernel) ⟨Nat.le_of_ble_eq_true rfl, Nat.le_of_ble_eq_true rfl⟩) rfl hl.1 rfl (Nat.le_of_ble_eq_true rfl) d_X_firstBeginFrom_47 ⟨Nat.le_of_ble_eq_true rfl, Nat.le_of_ble_eq_true rfl⟩ (fun r_9 u H locs hw hP hD hS => ?_)
        replace hP : va_P (dC, dI) vwCl [(h0, .inr (0, [.ref h1, .ref h2, .int (nI nn), .int pv])), (h1, .inl (cA, 512, .inl M)), (h2, .inl (cB, 512, .inl S))] H := hP
        replace hD : va_D A [(h0, .inr (0, [.ref h1, .ref h2, .int (nI nn), .int pv])), (h1, .inl (cA, 512, .inl M)), (h2, .inl (cB, 512, .inl S))] := hD
        subst hw
        refine lv_iadd hx hb d_X_firstBeginFrom_50 ?_
        refine lv_topi (nm_r (show _ = nI ((card * 32) + t) from nI_add _ _) ?_)
        exact W.iret (v := nI ((card * 32) + t)) hx hb hr (fun t9 ht9 hW9 => ⟨⟨nI ((card * 32) + t), (), rfl, congrArg nI (by have z9 := (zI_hit hI g0 (by omega) g2 t1 t2 t3).1; omega), by rw [ht9]; exact hP, va_K.moved hW9.alike hK, hD⟩, hS.F ht9⟩) hS.2.2 d_X_firstBeginFrom_51
set_option maxHeartbeats 4000000 in
set_option maxRecDepth 100000 in
/-- endOf(k) -/
theorem c_endOf (l : Launch) (dC : Nat → ClassId) (dI : Nat → Nat → Nat) (h0 h1 h2 : Nat) (cA cB : ClassId) (sz : Nat) (M S : Nat → Int32) (nn : Nat) (pv : Int32) (k : Nat) (g0 : k < nn) (g1 : nn ≤ 16384) (g2 : ∀ j, nn ≤ j → j < 16384 → zm M j = false) : Met l y_X_endOf ws_X_endOf ({ frames := 2, cells := 0, slots := 0, locals := 46 }) (va_Pc [.ref h0, .int (nI k)] (cc_P (dC, dI) vwCl (wX h0 h1 h2 cA cB M S (nI nn) pv) (tX cA cB) sz)) (va_Qi (S := Unit) (fun (r : Int32) (_ : Unit) => r = nI (zn (zm M) nn (k + 1))) (fun u t => cc_B (dC, dI) vwCl (tX cA cB) (va_A (wX h0 h1 h2 cA cB M S (nI nn) pv) sz) ((fun _ : Unit => (wX h0 h1 h2 cA cB M S (nI nn) pv)) u) t) (va_A (wX h0 h1 h2 cA cB M S (nI nn) pv) sz)) 0 0 (va_A (wX h0 h1 h2 cA cB M S (nI nn) pv) sz) := by
  refine Met.ofW (cc := c_X_endOf) (maxL := 2) (ret := (some .int)) (by decide) rfl ?_
  intro p e s m args below meth c s₁ B hml hv
  obtain ⟨rfl, hsz, hP, hK, hD0⟩ := hv
  have hx := B.exec
  have hb := B.bytes
  have hr := B.returns
  have hts : ∀ w ∈ zAll, w.before _ s = true := fun w h => atoms_spec (ws := ws_X_endOf) B.pre w (List.mem_cons_of_mem _ h)
  have hown : s.vm.findClass RX = some m.cls := findClass_of_methodNamed B.named
  have hlocks := B.notSynchronized
  subst hsz
  have hD := hD0.self (sz := s.heap.size)
  generalize hAe : va_A (wX h0 h1 h2 cA cB M S (nI nn) pv) s.heap.size = A at hD ⊢
  have hA : ∀ q : Nat, s.heap.size ≤ q → A q := fun q h => by rw [← hAe]; exact Or.inr h
  have hS : va_S A s.heap s.heap [] := va_S.rf
  replace hP : va_P (dC, dI) vwCl [(h0, .inr (0, [.ref h1, .ref h2, .int (nI nn), .int pv])), (h1, .inl (cA, 512, .inl M)), (h2, .inl (cB, 512, .inl S))] s.heap := hP
  replace hD : va_D A [(h0, .inr (0, [.ref h1, .ref h2, .int (nI nn), .int pv])), (h1, .inl (cA, 512, .inl M)), (h2, .inl (cB, 512, .inl S))] := hD
  have hl := lv_entry ([.ref h0, .int (nI k)]) (n := 2) (Nat.le_of_ble_eq_true rfl)
  rw [lg_entry_eq]
  generalize (lg_sl ([.ref h0, .int (nI k)]) ++ List.replicate (2 - (lg_sl ([.ref h0, .int (nI k)])).length) Slot.unset).toArray = ls at hl ⊢
  replace hl : lv_has ls 2 [(0, .ref h0), (1, .int (nI k))] := hl
  refine lv_aload_n hx hb d_X_endOf_0 rfl (lv_at hl 0 rfl) ?_
  refine lv_iload_n hx hb d_X_endOf_1 rfl (lv_at hl 1 rfl) ?_
  refine lv_iconst (v := nI 1) hx hb d_X_endOf_2 (by decide) ?_
  refine lv_iadd hx hb d_X_endOf_3 ?_
  refine lv_topi (nm_r (show _ = nI (k + 1) from nI_add _ _) ?_)
  refine cc_Vi (wc := [(h0, .inr (0, [.ref h1, .ref h2, .int (nI nn), .int pv])), (h1, .inl (cA, 512, .inl M)), (h2, .inl (cB, 512, .inl S))]) (wr := []) (tys' := [(cA, .int), (cB, .int)]) ⟨hx, hb, hml, hown, hts⟩ hP hD hK hS hA [0, 1, 2] [] [0, 1] rfl rfl rfl (by decide) (by decide) (by decide) rfl (c_firstBeginFrom l dC dI h0 h1 h2 cA cB _ M S nn pv (k + 1) (by omega) g1 g2) (cwV 1 hts g_X_87 rfl rfl rfl (by decide +kernel) ⟨Nat.le_of_ble_eq_true rfl, Nat.le_of_ble_eq_true rfl⟩) 0 0 rfl rfl rfl rfl hl.1 rfl (Nat.le_of_ble_eq_true rfl) d_X_endOf_4 ⟨Nat.le_of_ble_eq_true rfl, Nat.le_of_ble_eq_true rfl⟩ (fun r_9 u H locs hw hP hD hS => ?_)
  replace hP : va_P (dC, dI) vwCl [(h0, .inr (0, [.ref h1, .ref h2, .int (nI nn), .int pv])), (h1, .inl (cA, 512, .inl M)), (h2, .inl (cB, 512, .inl S))] H := hP
  replace hD : va_D A [(h0, .inr (0, [.ref h1, .ref h2, .int (nI nn), .int pv])), (h1, .inl (cA, 512, .inl M)), (h2, .inl (cB, 512, .inl S))] := hD
  subst hw
  exact W.iret (v := nI (zn (zm M) nn (k + 1))) hx hb hr (fun t9 ht9 hW9 => ⟨⟨nI (zn (zm M) nn (k + 1)), (), rfl, rfl, by rw [ht9]; exact hP, va_K.moved hW9.alike hK, hD⟩, hS.F ht9⟩) hS.2.2 d_X_endOf_7
set_option maxHeartbeats 4000000 in
set_option maxRecDepth 100000 in
/-- tellStarts(a, b) -/
theorem c_tellStarts (l : Launch) (dC : Nat → ClassId) (dI : Nat → Nat → Nat) (h0 h1 h2 : Nat) (cA cB : ClassId) (sz : Nat) (M S : Nat → Int32) (nv pv : Int32) (a b : Nat) (g0 : a ≤ b) (g1 : b ≤ 16384) : Met l y_X_tellStarts ws_X_tellStarts ({ frames := 0, cells := 0, slots := 0, locals := 0 }) (va_Pc [.ref h0, .int (nI a), .int (nI b)] (cc_P (dC, dI) vwCl (wX h0 h1 h2 cA cB M S nv pv) (tX cA cB) sz)) (va_Qv (S := Nat → Int32) (fun u : Nat → Int32 => zT S a b u) (fun u t => cc_B (dC, dI) vwCl (tX cA cB) (va_A (wX h0 h1 h2 cA cB M S nv pv) sz) ((fun u : Nat → Int32 => (wX h0 h1 h2 cA cB M u nv pv)) u) t) (va_A (wX h0 h1 h2 cA cB M S nv pv) sz)) 0 0 (va_A (wX h0 h1 h2 cA cB M S nv pv) sz) := by
  refine Met.ofW (cc := c_X_tellStarts) (maxL := 6) (ret := none) (by decide) rfl ?_
  intro p e s m args below meth c s₁ B hml hv
  obtain ⟨rfl, hsz, hP, hK, hD0⟩ := hv
  have hx := B.exec
  have hb := B.bytes
  have hr := B.returns
  have hts : ∀ w ∈ zAll, w.before _ s = true := fun w h => atoms_spec (ws := ws_X_tellStarts) B.pre w (List.mem_cons_of_mem _ h)
  have hown : s.vm.findClass RX = some m.cls := findClass_of_methodNamed B.named
  have hlocks := B.notSynchronized
  subst hsz
  have hD := hD0.self (sz := s.heap.size)
  generalize hAe : va_A (wX h0 h1 h2 cA cB M S nv pv) s.heap.size = A at hD ⊢
  have hA : ∀ q : Nat, s.heap.size ≤ q → A q := fun q h => by rw [← hAe]; exact Or.inr h
  have hS : va_S A s.heap s.heap [] := va_S.rf
  replace hP : va_P (dC, dI) vwCl [(h0, .inr (0, [.ref h1, .ref h2, .int nv, .int pv])), (h1, .inl (cA, 512, .inl M)), (h2, .inl (cB, 512, .inl S))] s.heap := hP
  replace hD : va_D A [(h0, .inr (0, [.ref h1, .ref h2, .int nv, .int pv])), (h1, .inl (cA, 512, .inl M)), (h2, .inl (cB, 512, .inl S))] := hD
  have hl := lv_entry ([.ref h0, .int (nI a), .int (nI b)]) (n := 6) (Nat.le_of_ble_eq_true rfl)
  rw [lg_entry_eq]
  generalize (lg_sl ([.ref h0, .int (nI a), .int (nI b)]) ++ List.replicate (6 - (lg_sl ([.ref h0, .int (nI a), .int (nI b)])).length) Slot.unset).toArray = ls at hl ⊢
  replace hl : lv_has ls 6 [(0, .ref h0), (1, .int (nI a)), (2, .int (nI b))] := hl
  refine lv_iload_n hx hb d_X_tellStarts_0 rfl (lv_at hl 1 rfl) ?_
  refine lv_bipush (v := nI 32) hx hb d_X_tellStarts_1 (by decide) ?_
  refine lv_iadd hx hb d_X_tellStarts_3 ?_
  refine lv_topi (nm_r (show _ = nI (a + 32) from nI_add _ _) ?_)
  refine lv_iconst (v := nI 1) hx hb d_X_tellStarts_4 (by decide) ?_
  refine lv_isub hx hb d_X_tellStarts_5 ?_
  refine lv_topi (nm_r (show _ = nI ((a + 32) - 1) from pk_sub (by omega)) ?_)
  refine lv_bipush (v := nI 32) hx hb d_X_tellStarts_6 (by decide) ?_
  refine lv_idiv hx hb d_X_tellStarts_8 (by decide) ?_
  refine lv_topi (nm_r (show _ = nI (((a + 32) - 1) / 32) from pk_div (by omega) (by omega) (by omega)) ?_)
  refine lv_istore_n (lv' := [(3, .int (nI (((a + 32) - 1) / 32))), (0, .ref h0), (1, .int (nI a)), (2, .int (nI b))]) hx hb d_X_tellStarts_9 rfl hl (by decide) rfl (fun ls hl => ?_)
  refine lv_iload_n hx hb d_X_tellStarts_10 rfl (lv_at hl 3 rfl) ?_
  refine lv_bipush (v := nI 32) hx hb d_X_tellStarts_11 (by decide) ?_
  refine lv_iadd hx hb d_X_tellStarts_13 ?_
  refine lv_topi (nm_r (show _ = nI (b + 32) from nI_add _ _) ?_)
  refine lv_iconst (v := nI 1) hx hb d_X_tellStarts_14 (by decide) ?_
  refine lv_isub hx hb d_X_tellStarts_15 ?_
  refine lv_topi (nm_r (show _ = nI ((b + 32) - 1) from pk_sub (by omega)) ?_)
  refine lv_bipush (v := nI 32) hx hb d_X_tellStarts_16 (by decide) ?_
  refine lv_idiv hx hb d_X_tellStarts_18 (by decide) ?_
  refine lv_topi (nm_r (show _ = nI (((b + 32) - 1) / 32) from pk_div (by omega) (by omega) (by omega)) ?_)
  refine lv_istore (lv' := [(4, .int (nI (((b + 32) - 1) / 32))), (3, .int (nI (((a + 32) - 1) / 32))), (0, .ref h0), (1, .int (nI a)), (2, .int (nI b))]) hx hb d_X_tellStarts_19 hl (by decide) rfl (fun ls hl => ?_)
  refine lv_iload_n hx hb d_X_tellStarts_21 rfl (lv_at hl 1 rfl) ?_
  refine lv_istore (lv' := [(5, .int (nI (((a + 32) - 1) / 32))), (4, .int (nI (((b + 32) - 1) / 32))), (3, .int (nI (((a + 32) - 1) / 32))), (0, .ref h0), (1, .int (nI a)), (2, .int (nI b))]) hx hb d_X_tellStarts_22 hl (by decide) rfl (fun ls hl => ?_)
  refine cc_from hP hD hS (fun H locs hP hD hS => ?_)
  obtain ⟨cd, e_cd⟩ : ∃ cd : Nat, cd = (a + 31) / 32 := ⟨_, rfl⟩
  obtain ⟨f, e_f⟩ : ∃ f : Nat → Int32, f = S := ⟨_, rfl⟩
  replace hl : lv_has ls 6 [(0, .ref h0), (1, .int (nI a)), (2, .int (nI b)), (3, .int (nI ((a + 31) / 32))), (4, .int (nI ((b + 31) / 32))), (5, .int (nI cd))] := by (subst e_cd; subst e_f; exact lv_sub hl [3, 4, 5, 2, 1, 0] rfl)
  replace hP : va_P (dC, dI) vwCl [(h0, .inr (0, [.ref h1, .ref h2, .int nv, .int pv])), (h1, .inl (cA, 512, .inl M)), (h2, .inl (cB, 512, .inl f))] H := by (subst e_cd; subst e_f; exact hP)
  replace hD : va_D A [(h0, .inr (0, [.ref h1, .ref h2, .int nv, .int pv])), (h1, .inl (cA, 512, .inl M)), (h2, .inl (cB, 512, .inl f))] := by (subst e_cd; subst e_f; exact hD)
  have hc : (a + 31) / 32 ≤ cd := by (subst e_cd; subst e_f; exact Nat.le_refl _)
  have hc2 : cd ≤ (b + 31) / 32 := by (subst e_cd; subst e_f; omega)
  have hT : ∀ j, j < 512 → f j = if a ≤ 32 * j ∧ j < cd then nI a else S j := by (subst e_cd; subst e_f; exact fun j hj => by rw [if_neg (by omega)])
  clear e_cd e_f
  obtain ⟨f9, hf9⟩ : ∃ f9 : Nat, (b + 31) / 32 - cd < f9 := ⟨_, Nat.lt_succ_self _⟩
  induction f9 generalizing ls H locs cd f with
  | zero => exact absurd hf9 (Nat.not_lt_zero _)
  | succ f9 ih =>
    refine lv_iload hx hb d_X_tellStarts_24 (lv_at hl 5 rfl) ?_
    refine lv_iload hx hb d_X_tellStarts_26 (lv_at hl 4 rfl) ?_
    refine lv_icmp_ge (tgt := 45) hx hb d_X_tellStarts_28 (by decide) (fun c1 => ?_) (fun c1 => ?_)
    · replace c1 : (b + 31) / 32 ≤ cd := (nI_leI (a := (b + 31) / 32) (b := cd) (by omega) (by omega)).mp c1
      have hT3 : zT S a b f := fun j hj => by
        rw [hT j hj]
        by_cases q : a ≤ 32 * j ∧ 32 * j < b
        · rw [if_pos q, if_pos (by omega)]
        · rw [if_neg q, if_neg (by omega)]
      exact W.vret hx hb hr (fun t9 ht9 hW9 => ⟨⟨f, rfl, hT3, by rw [ht9]; exact hP, va_K.moved hW9.alike hK, hD⟩, hS.F ht9⟩) hS.2.2 d_X_tellStarts_45
    · replace c1 : ¬ ((b + 31) / 32 ≤ cd) := fun h9 => c1 ((nI_leI (a := (b + 31) / 32) (b := cd) (by omega) (by omega)).mpr h9)
      have hlt : cd < 512 := by omega
      have hT2 : ∀ j, j < 512 → upd f cd (nI a) j = if a ≤ 32 * j ∧ j < cd + 1 then nI a else S j := fun j hj => by
        by_cases q : j = cd
        · rw [q, pk_us, if_pos (by omega)]
        · rw [pk_un q, hT j hj]
          by_cases z : a ≤ 32 * j ∧ j < cd
          · rw [if_pos z, if_pos (by omega)]
          · rw [if_neg z, if_neg (by omega)]
      refine lv_aload_n hx hb d_X_tellStarts_31 rfl (lv_at hl 0 rfl) ?_
      refine va_get (D := (dC, dI)) (ci := 0) (v := .ref h2) (C := RX) (T := TX) (N := 4) hx hb hts inX hown hK hP 0 rfl rfl 1 (by decide) (hts _ wl_X_13) (fun _ h9 => h9) rfl d_X_tellStarts_32 ?_
      refine lv_iload hx hb d_X_tellStarts_35 (lv_at hl 5 rfl) ?_
      refine lv_iload_n hx hb d_X_tellStarts_37 rfl (lv_at hl 1 rfl) ?_
      refine va_iast hx hb hK hP hD hS 2 1 rfl rfl (vp_in_nI (by omega) (by decide)) d_X_tellStarts_38 (fun H locs hP hD hS => ?_)
      rw [nI_clamp (by omega)] at hP hD
      replace hP : va_P (dC, dI) vwCl [(h0, .inr (0, [.ref h1, .ref h2, .int nv, .int pv])), (h1, .inl (cA, 512, .inl M)), (h2, .inl (cB, 512, .inl (upd f cd (nI a))))] H := hP
      replace hD : va_D A [(h0, .inr (0, [.ref h1, .ref h2, .int nv, .int pv])), (h1, .inl (cA, 512, .inl M)), (h2, .inl (cB, 512, .inl (upd f cd (nI a))))] := hD
      refine lv_iinc (v := nI (cd + 1)) (lv' := [(5, .int (nI (cd + 1))), (0, .ref h0), (1, .int (nI a)), (2, .int (nI b)), (3, .int (nI ((a + 31) / 32))), (4, .int (nI ((b + 31) / 32)))]) hx hb d_X_tellStarts_39 hl (k := 5) rfl (nI_1 _) (by decide) rfl (fun ls hl => ?_)
      refine lv_goto (tgt := 24) hx hb d_X_tellStarts_42 (by decide) ?_
      apply ih (ls := ls) (H := H) (locs := locs) (cd := cd + 1) (f := upd f cd (nI a)) <;> first | assumption | exact lv_sub hl [1, 2, 3, 4, 5, 0] rfl | omega
end
section
set_option maxHeartbeats 4000000 in
set_option maxRecDepth 100000 in
/-- cutAt(k) -/
theorem c_cutAt (l : Launch) (dC : Nat → ClassId) (dI : Nat → Nat → Nat) (h0 h1 h2 : Nat) (cA cB : ClassId) (sz : Nat) (M S : Nat → Int32) (nn pp : Nat) (k : Nat) (g0 : zCI nn pp M S) (g1 : k < nn) : Met l y_X_cutAt ws_X_cutAt ({ frames := 3, cells := 0, slots := 0, locals := 67 }) (va_Pc [.ref h0, .int (nI k)] (cc_P (dC, dI) vwCl (wX h0 h1 h2 cA cB M S (nI nn) (nI pp)) (tX cA cB) sz)) (va_Qv (S := (Nat → Int32) × (Nat → Int32) × Nat) (fun (u : (Nat → Int32) × (Nat → Int32) × Nat) => zCI nn u.2.2 u.1 u.2.1 ∧ ∀ j, zm u.1 j = (zm M j || decide (j = k))) (fun u t => cc_B (dC, dI) vwCl (tX cA cB) (va_A (wX h0 h1 h2 cA cB M S (nI nn) (nI pp)) sz) ((fun u : (Nat → Int32) × (Nat → Int32) × Nat => (wX h0 h1 h2 cA cB u.1 u.2.1 (nI nn) (nI u.2.2))) u) t) (va_A (wX h0 h1 h2 cA cB M S (nI nn) (nI pp)) sz)) 0 0 (va_A (wX h0 h1 h2 cA cB M S (nI nn) (nI pp)) sz) := by
  refine Met.ofW (cc := c_X_cutAt) (maxL := 2) (ret := none) (by decide) rfl ?_
  intro p e s m args below meth c s₁ B hml hv
  obtain ⟨rfl, hsz, hP, hK, hD0⟩ := hv
  have hx := B.exec
  have hb := B.bytes
  have hr := B.returns
  have hts : ∀ w ∈ zAll, w.before _ s = true := fun w h => atoms_spec (ws := ws_X_cutAt) B.pre w (List.mem_cons_of_mem _ h)
  have hown : s.vm.findClass RX = some m.cls := findClass_of_methodNamed B.named
  have hlocks := B.notSynchronized
  subst hsz
  have hD := hD0.self (sz := s.heap.size)
  generalize hAe : va_A (wX h0 h1 h2 cA cB M S (nI nn) (nI pp)) s.heap.size = A at hD ⊢
  have hA : ∀ q : Nat, s.heap.size ≤ q → A q := fun q h => by rw [← hAe]; exact Or.inr h
  have hS : va_S A s.heap s.heap [] := va_S.rf
  replace hP : va_P (dC, dI) vwCl [(h0, .inr (0, [.ref h1, .ref h2, .int (nI nn), .int (nI pp)])), (h1, .inl (cA, 512, .inl M)), (h2, .inl (cB, 512, .inl S))] s.heap := hP
  replace hD : va_D A [(h0, .inr (0, [.ref h1, .ref h2, .int (nI nn), .int (nI pp)])), (h1, .inl (cA, 512, .inl M)), (h2, .inl (cB, 512, .inl S))] := hD
  have hl := lv_entry ([.ref h0, .int (nI k)]) (n := 2) (Nat.le_of_ble_eq_true rfl)
  rw [lg_entry_eq]
  generalize (lg_sl ([.ref h0, .int (nI k)]) ++ List.replicate (2 - (lg_sl ([.ref h0, .int (nI k)])).length) Slot.unset).toArray = ls at hl ⊢
  replace hl : lv_has ls 2 [(0, .ref h0), (1, .int (nI k))] := hl
  have gi := g0
  obtain ⟨i1, i2, i3, i4, i5, i6⟩ := gi
  refine lv_aload_n hx hb d_X_cutAt_0 rfl (lv_at hl 0 rfl) ?_
  refine lv_iload_n hx hb d_X_cutAt_1 rfl (lv_at hl 1 rfl) ?_
  refine cc_Vi (wc := [(h0, .inr (0, [.ref h1, .ref h2, .int (nI nn), .int (nI pp)])), (h1, .inl (cA, 512, .inl M)), (h2, .inl (cB, 512, .inl S))]) (wr := []) (tys' := [(cA, .int), (cB, .int)]) ⟨hx, hb, hml, hown, hts⟩ hP hD hK hS hA [0, 1, 2] [] [0, 1] rfl rfl rfl (by decide) (by decide) (by decide) rfl (c_beginOf l dC dI h0 h1 h2 cA cB _ M S nn (nI pp) k (by omega) i3 (i6 _ (by omega))) (cwV 1 hts g_X_34 rfl rfl rfl (by decide +kernel) ⟨Nat.le_of_ble_eq_true rfl, Nat.le_of_ble_eq_true rfl⟩) 0 0 rfl rfl rfl rfl hl.1 rfl (Nat.le_of_ble_eq_true rfl) d_X_cutAt_2 ⟨Nat.le_of_ble_eq_true rfl, Nat.le_of_ble_eq_true rfl⟩ (fun r_9 u H locs hw hP hD hS => ?_)
  replace hP : va_P (dC, dI) vwCl [(h0, .inr (0, [.ref h1, .ref h2, .int (nI nn), .int (nI pp)])), (h1, .inl (cA, 512, .inl M)), (h2, .inl (cB, 512, .inl S))] H := hP
  replace hD : va_D A [(h0, .inr (0, [.ref h1, .ref h2, .int (nI nn), .int (nI pp)])), (h1, .inl (cA, 512, .inl M)), (h2, .inl (cB, 512, .inl S))] := hD
  subst hw
  have zl := zb_le (zm M) k
  refine lv_iload_n hx hb d_X_cutAt_5 rfl (lv_at hl 1 rfl) ?_
  refine lv_icmp_ne (tgt := 10) hx hb d_X_cutAt_6 (by decide) (fun c1 => ?_) (fun c1 => ?_)
  · replace c1 : ¬ (zb (zm M) k = k) := fun h9 => c1 ((nI_eq (a := zb (zm M) k) (b := k) (by omega) (by omega)).mpr h9)
    refine lv_aload_n hx hb d_X_cutAt_10 rfl (lv_at hl 0 rfl) ?_
    refine va_get (D := (dC, dI)) (ci := 0) (v := .ref h1) (C := RX) (T := TX) (N := 4) hx hb hts inX hown hK hP 0 rfl rfl 0 (by decide) (hts _ wl_X_9) (fun _ h9 => h9) rfl d_X_cutAt_11 ?_
    refine lv_iload_n hx hb d_X_cutAt_14 rfl (lv_at hl 1 rfl) ?_
    refine lv_bipush (v := nI 32) hx hb d_X_cutAt_15 (by decide) ?_
    refine lv_idiv hx hb d_X_cutAt_17 (by decide) ?_
    refine lv_topi (nm_r (show _ = nI (k / 32) from pk_div (by omega) (by omega) (by omega)) ?_)
    refine lv_dup2_11 hx hb d_X_cutAt_18 rfl rfl ?_
    refine va_iald hx hb hK hP 1 0 rfl rfl (vp_in_nI (by omega) (by decide)) d_X_cutAt_19 ?_
    refine lv_topi (nm_r (show _ = M (k / 32) from by rw [nI_clamp (by omega)]) ?_)
    refine lv_iload_n hx hb d_X_cutAt_20 rfl (lv_at hl 1 rfl) ?_
    refine cc_Si (wc := []) (wr := [(h0, .inr (0, [.ref h1, .ref h2, .int (nI nn), .int (nI pp)])), (h1, .inl (cA, 512, .inl M)), (h2, .inl (cB, 512, .inl S))]) (tys' := []) ⟨hx, hb, hml, hown, hts⟩ hP hD hK hS hA [] [0, 1, 2] [] rfl rfl rfl (by decide) (by decide) (by decide) rfl (c_bitOf l dC dI _ k (by omega)) (va_cwS 1 hts g_X_93 rfl rfl rfl (by decide +kernel) ⟨Nat.le_of_ble_eq_true rfl, Nat.le_of_ble_eq_true rfl⟩) rfl hl.1 rfl (Nat.le_of_ble_eq_true rfl) d_X_cutAt_21 ⟨Nat.le_of_ble_eq_true rfl, Nat.le_of_ble_eq_true rfl⟩ (fun r_9 u H locs hw hP hD hS => ?_)
    replace hP : va_P (dC, dI) vwCl [(h0, .inr (0, [.ref h1, .ref h2, .int (nI nn), .int (nI pp)])), (h1, .inl (cA, 512, .inl M)), (h2, .inl (cB, 512, .inl S))] H := hP
    replace hD : va_D A [(h0, .inr (0, [.ref h1, .ref h2, .int (nI nn), .int (nI pp)])), (h1, .inl (cA, 512, .inl M)), (h2, .inl (cB, 512, .inl S))] := hD
    subst hw
    refine lv_ior hx hb d_X_cutAt_24 ?_
    refine va_iast hx hb hK hP hD hS 1 0 rfl rfl (vp_in_nI (by omega) (by decide)) d_X_cutAt_25 (fun H locs hP hD hS => ?_)
    rw [nI_clamp (by omega)] at hP hD
    replace hP : va_P (dC, dI) vwCl [(h0, .inr (0, [.ref h1, .ref h2, .int (nI nn), .int (nI pp)])), (h1, .inl (cA, 512, .inl (upd M (k / 32) ((M (k / 32)) ||| ((1 : Int32) <<< (nI (k % 32) &&& 31)))))), (h2, .inl (cB, 512, .inl S))] H := hP
    replace hD : va_D A [(h0, .inr (0, [.ref h1, .ref h2, .int (nI nn), .int (nI pp)])), (h1, .inl (cA, 512, .inl (upd M (k / 32) ((M (k / 32)) ||| ((1 : Int32) <<< (nI (k % 32) &&& 31)))))), (h2, .inl (cB, 512, .inl S))] := hD
    obtain ⟨M2, eM⟩ : ∃ M2 : Nat → Int32, M2 = upd M (k / 32) ((M (k / 32)) ||| ((1 : Int32) <<< (nI (k % 32) &&& 31))) := ⟨_, rfl⟩
    rw [← eM] at hP hD
    have hM2 : ∀ j, zm M2 j = (zm M j || decide (j = k)) := fun j => by (rw [eM, zm_set (Nat.mod_lt _ (by decide))]; rw [show 32 * (k / 32) + k % 32 = k by omega])
    clear eM
    have h4 : ∀ j, nn ≤ j → j < 16384 → zm M2 j = false := fun j a b => by (rw [hM2, i4 j a b, decide_eq_false (by omega)]; rfl)
    have hpp : pp < 16385 := by (rw [i5]; have := zc_le (zm M) nn; omega)
    refine lv_aload_n hx hb d_X_cutAt_26 rfl (lv_at hl 0 rfl) ?_
    refine lv_dup hx hb d_X_cutAt_27 rfl ?_
    refine va_get (D := (dC, dI)) (ci := 0) (v := .int (nI pp)) (C := RX) (T := TX) (N := 4) hx hb hts inX hown hK hP 0 rfl rfl 3 (by decide) (hts _ wl_X_53) (fun _ h9 => h9) rfl d_X_cutAt_28 ?_
    refine lv_iconst (v := nI 1) hx hb d_X_cutAt_31 (by decide) ?_
    refine lv_iadd hx hb d_X_cutAt_32 ?_
    refine lv_topi (nm_r (show _ = nI (pp + 1) from nI_add _ _) ?_)
    refine va_put (D := (dC, dI)) (ci := 0) (v := .int (nI (pp + 1))) (ty := .int) (C := RX) (T := TX) (N := 4) hx hb hts inX tyX tyX_ok nmX hown hK hP hD hS 0 rfl rfl 3 (by decide) (hts _ wl_X_53) (fun _ h9 => h9) rfl (by decide +kernel) rfl rfl (Nat.le_of_ble_eq_true rfl) d_X_cutAt_33 (fun H locs hP hD hS => ?_)
    replace hP : va_P (dC, dI) vwCl [(h0, .inr (0, [.ref h1, .ref h2, .int (nI nn), .int (nI (pp + 1))])), (h1, .inl (cA, 512, .inl M2)), (h2, .inl (cB, 512, .inl S))] H := hP
    replace hD : va_D A [(h0, .inr (0, [.ref h1, .ref h2, .int (nI nn), .int (nI (pp + 1))])), (h1, .inl (cA, 512, .inl M2)), (h2, .inl (cB, 512, .inl S))] := hD
    refine lv_aload_n hx hb d_X_cutAt_36 rfl (lv_at hl 0 rfl) ?_
    refine lv_iload_n hx hb d_X_cutAt_37 rfl (lv_at hl 1 rfl) ?_
    refine lv_aload_n hx hb d_X_cutAt_38 rfl (lv_at hl 0 rfl) ?_
    refine lv_iload_n hx hb d_X_cutAt_39 rfl (lv_at hl 1 rfl) ?_
    refine cc_Vi (wc := [(h0, .inr (0, [.ref h1, .ref h2, .int (nI nn), .int (nI (pp + 1))])), (h1, .inl (cA, 512, .inl M2)), (h2, .inl (cB, 512, .inl S))]) (wr := []) (tys' := [(cA, .int), (cB, .int)]) ⟨hx, hb, hml, hown, hts⟩ hP hD hK hS hA [0, 1, 2] [] [0, 1] rfl rfl rfl (by decide) (by decide) (by decide) rfl (c_endOf l dC dI h0 h1 h2 cA cB _ M2 S nn _ k g1 i2 h4) (cwV 1 hts g_X_41 rfl rfl rfl (by decide +kernel) ⟨Nat.le_of_ble_eq_true rfl, Nat.le_of_ble_eq_true rfl⟩) 0 0 rfl rfl rfl rfl hl.1 rfl (Nat.le_of_ble_eq_true rfl) d_X_cutAt_40 ⟨Nat.le_of_ble_eq_true rfl, Nat.le_of_ble_eq_true rfl⟩ (fun r_9 u H locs hw hP hD hS => ?_)
    replace hP : va_P (dC, dI) vwCl [(h0, .inr (0, [.ref h1, .ref h2, .int (nI nn), .int (nI (pp + 1))])), (h1, .inl (cA, 512, .inl M2)), (h2, .inl (cB, 512, .inl S))] H := hP
    replace hD : va_D A [(h0, .inr (0, [.ref h1, .ref h2, .int (nI nn), .int (nI (pp + 1))])), (h1, .inl (cA, 512, .inl M2)), (h2, .inl (cB, 512, .inl S))] := hD
    subst hw
    have e1 := zn_ge (zm M2) nn (k + 1)
    have e2 : zn (zm M2) nn (k + 1) ≤ nn := zn_le (by omega)
    refine cc_Vv (wc := [(h0, .inr (0, [.ref h1, .ref h2, .int (nI nn), .int (nI (pp + 1))])), (h1, .inl (cA, 512, .inl M2)), (h2, .inl (cB, 512, .inl S))]) (wr := []) (tys' := [(cA, .int), (cB, .int)]) ⟨hx, hb, hml, hown, hts⟩ hP hD hK hS hA [0, 1, 2] [] [0, 1] rfl rfl rfl (by decide) (by decide) (by decide) rfl (c_tellStarts l dC dI h0 h1 h2 cA cB _ M2 S (nI nn) _ k _ (by omega) (by omega)) (cwV 2 hts g_X_96 rfl rfl rfl (by decide +kernel) ⟨Nat.le_of_ble_eq_true rfl, Nat.le_of_ble_eq_true rfl⟩) 0 0 rfl rfl rfl rfl hl.1 rfl (Nat.le_of_ble_eq_true rfl) d_X_cutAt_43 ⟨Nat.le_of_ble_eq_true rfl, Nat.le_of_ble_eq_true rfl⟩ (fun S2 H locs hw hP hD hS => ?_)
    replace hP : va_P (dC, dI) vwCl [(h0, .inr (0, [.ref h1, .ref h2, .int (nI nn), .int (nI (pp + 1))])), (h1, .inl (cA, 512, .inl M2)), (h2, .inl (cB, 512, .inl S2))] H := hP
    replace hD : va_D A [(h0, .inr (0, [.ref h1, .ref h2, .int (nI nn), .int (nI (pp + 1))])), (h1, .inl (cA, 512, .inl M2)), (h2, .inl (cB, 512, .inl S2))] := hD
    exact W.vret hx hb hr (fun t9 ht9 hW9 => ⟨⟨(M2, S2, pp + 1), rfl, ⟨z_cut g0 g1 c1 hM2 hw, hM2⟩, by rw [ht9]; exact hP, va_K.moved hW9.alike hK, hD⟩, hS.F ht9⟩) hS.2.2 d_X_cutAt_46
  · replace c1 : zb (zm M) k = k := (nI_eq (a := zb (zm M) k) (b := k) (by omega) (by omega)).mp c1
    have on1 : zm M k = true := by (have z9 := zb_on i3 k; rw [c1] at z9; exact z9)
    have hM1 : ∀ j, zm M j = (zm M j || decide (j = k)) := fun j => by
      by_cases q : j = k
      · rw [q, on1, Bool.true_or]
      · rw [decide_eq_false q, Bool.or_false]
    exact W.vret hx hb hr (fun t9 ht9 hW9 => ⟨⟨(M, S, pp), rfl, ⟨g0, hM1⟩, by rw [ht9]; exact hP, va_K.moved hW9.alike hK, hD⟩, hS.F ht9⟩) hS.2.2 d_X_cutAt_9
set_option maxHeartbeats 4000000 in
set_option maxRecDepth 100000 in
/-- merge(a, b) -/
theorem c_merge (l : Launch) (dC : Nat → ClassId) (dI : Nat → Nat → Nat) (h0 h1 h2 : Nat) (cA cB : ClassId) (sz : Nat) (M S : Nat → Int32) (nn pp : Nat) (a b : Nat) (g0 : zCI nn pp M S) (g1 : a < b) (g2 : b ≤ nn) (g3 : zm M a = true) (g4 : b = nn ∨ zm M b = true) : Met l y_X_merge ws_X_merge ({ frames := 3, cells := 0, slots := 0, locals := 67 }) (va_Pc [.ref h0, .int (nI a), .int (nI b)] (cc_P (dC, dI) vwCl (wX h0 h1 h2 cA cB M S (nI nn) (nI pp)) (tX cA cB) sz)) (va_Qv (S := (Nat → Int32) × (Nat → Int32) × Nat) (fun (u : (Nat → Int32) × (Nat → Int32) × Nat) => zCI nn u.2.2 u.1 u.2.1 ∧ zG M u.1 a b) (fun u t => cc_B (dC, dI) vwCl (tX cA cB) (va_A (wX h0 h1 h2 cA cB M S (nI nn) (nI pp)) sz) ((fun u : (Nat → Int32) × (Nat → Int32) × Nat => (wX h0 h1 h2 cA cB u.1 u.2.1 (nI nn) (nI u.2.2))) u) t) (va_A (wX h0 h1 h2 cA cB M S (nI nn) (nI pp)) sz)) 0 0 (va_A (wX h0 h1 h2 cA cB M S (nI nn) (nI pp)) sz) := by
  refine Met.ofW (cc := c_X_merge) (maxL := 6) (ret := none) (by decide) rfl ?_
  intro p e s m args below meth c s₁ B hml hv
  obtain ⟨rfl, hsz, hP, hK, hD0⟩ := hv
  have hx := B.exec
  have hb := B.bytes
  have hr := B.returns
  have hts : ∀ w ∈ zAll, w.before _ s = true := fun w h => atoms_spec (ws := ws_X_merge) B.pre w (List.mem_cons_of_mem _ h)
  have hown : s.vm.findClass RX = some m.cls := findClass_of_methodNamed B.named
  have hlocks := B.notSynchronized
  subst hsz
  have hD := hD0.self (sz := s.heap.size)
  generalize hAe : va_A (wX h0 h1 h2 cA cB M S (nI nn) (nI pp)) s.heap.size = A at hD ⊢
  have hA : ∀ q : Nat, s.heap.size ≤ q → A q := fun q h => by rw [← hAe]; exact Or.inr h
  have hS : va_S A s.heap s.heap [] := va_S.rf
  replace hP : va_P (dC, dI) vwCl [(h0, .inr (0, [.ref h1, .ref h2, .int (nI nn), .int (nI pp)])), (h1, .inl (cA, 512, .inl M)), (h2, .inl (cB, 512, .inl S))] s.heap := hP
  replace hD : va_D A [(h0, .inr (0, [.ref h1, .ref h2, .int (nI nn), .int (nI pp)])), (h1, .inl (cA, 512, .inl M)), (h2, .inl (cB, 512, .inl S))] := hD
  have hl := lv_entry ([.ref h0, .int (nI a), .int (nI b)]) (n := 6) (Nat.le_of_ble_eq_true rfl)
  rw [lg_entry_eq]
  generalize (lg_sl ([.ref h0, .int (nI a), .int (nI b)]) ++ List.replicate (6 - (lg_sl ([.ref h0, .int (nI a), .int (nI b)])).length) Slot.unset).toArray = ls at hl ⊢
  replace hl : lv_has ls 6 [(0, .ref h0), (1, .int (nI a)), (2, .int (nI b))] := hl
  have gi := g0
  obtain ⟨i1, i2, i3, i4, i5, i6⟩ := gi
  refine lv_aload_n hx hb d_X_merge_0 rfl (lv_at hl 0 rfl) ?_
  refine va_get (D := (dC, dI)) (ci := 0) (v := .int (nI pp)) (C := RX) (T := TX) (N := 4) hx hb hts inX hown hK hP 0 rfl rfl 3 (by decide) (hts _ wl_X_53) (fun _ h9 => h9) rfl d_X_merge_1 ?_
  refine lv_istore_n (lv' := [(3, .int (nI pp)), (0, .ref h0), (1, .int (nI a)), (2, .int (nI b))]) hx hb d_X_merge_4 rfl hl (by decide) rfl (fun ls hl => ?_)
  refine lv_aload_n hx hb d_X_merge_5 rfl (lv_at hl 1 rfl) ?_
  refine lv_iload_n hx hb d_X_merge_6 rfl (lv_at hl 2 rfl) ?_
  refine cc_Vi (wc := [(h0, .inr (0, [.ref h1, .ref h2, .int (nI nn), .int (nI pp)])), (h1, .inl (cA, 512, .inl M)), (h2, .inl (cB, 512, .inl S))]) (wr := []) (tys' := [(cA, .int), (cB, .int)]) ⟨hx, hb, hml, hown, hts⟩ hP hD hK hS hA [0, 1, 2] [] [0, 1] rfl rfl rfl (by decide) (by decide) (by decide) rfl (c_endOf l dC dI h0 h1 h2 cA cB _ M S nn (nI pp) a (by omega) i2 i4) (cwV 1 hts g_X_41 rfl rfl rfl (by decide +kernel) ⟨Nat.le_of_ble_eq_true rfl, Nat.le_of_ble_eq_true rfl⟩) 0 0 rfl rfl rfl rfl hl.1 rfl (Nat.le_of_ble_eq_true rfl) d_X_merge_7 ⟨Nat.le_of_ble_eq_true rfl, Nat.le_of_ble_eq_true rfl⟩ (fun r_9 u H locs hw hP hD hS => ?_)
  replace hP : va_P (dC, dI) vwCl [(h0, .inr (0, [.ref h1, .ref h2, .int (nI nn), .int (nI pp)])), (h1, .inl (cA, 512, .inl M)), (h2, .inl (cB, 512, .inl S))] H := hP
  replace hD : va_D A [(h0, .inr (0, [.ref h1, .ref h2, .int (nI nn), .int (nI pp)])), (h1, .inl (cA, 512, .inl M)), (h2, .inl (cB, 512, .inl S))] := hD
  subst hw
  refine lv_istore (lv' := [(4, .int (nI (zn (zm M) nn (a + 1)))), (3, .int (nI pp)), (0, .ref h0), (1, .int (nI a)), (2, .int (nI b))]) hx hb d_X_merge_10 hl (by decide) rfl (fun ls hl => ?_)
  refine lv_iconst (v := nI 0) hx hb d_X_merge_12 (by decide) ?_
  refine lv_istore (lv' := [(5, .int (nI 0)), (4, .int (nI (zn (zm M) nn (a + 1)))), (3, .int (nI pp)), (0, .ref h0), (1, .int (nI a)), (2, .int (nI b))]) hx hb d_X_merge_13 hl (by decide) rfl (fun ls hl => ?_)
  refine cc_from hP hD hS (fun H locs hP hD hS => ?_)
  obtain ⟨ee, e_ee⟩ : ∃ ee : Nat, ee = zn (zm M) nn (a + 1) := ⟨_, rfl⟩
  obtain ⟨i, e_i⟩ : ∃ i : Nat, i = 0 := ⟨_, rfl⟩
  obtain ⟨f, e_f⟩ : ∃ f : Nat → Int32, f = M := ⟨_, rfl⟩
  obtain ⟨q, e_q⟩ : ∃ q : Nat, q = pp := ⟨_, rfl⟩
  replace hl : lv_has ls 6 [(0, .ref h0), (1, .int (nI a)), (2, .int (nI b)), (3, .int (nI pp)), (4, .int (nI ee)), (5, .int (nI i))] := by (subst e_ee; subst e_i; subst e_f; subst e_q; exact lv_sub hl [3, 4, 5, 2, 1, 0] rfl)
  replace hP : va_P (dC, dI) vwCl [(h0, .inr (0, [.ref h1, .ref h2, .int (nI nn), .int (nI q)])), (h1, .inl (cA, 512, .inl f)), (h2, .inl (cB, 512, .inl S))] H := by (subst e_ee; subst e_i; subst e_f; subst e_q; exact hP)
  replace hD : va_D A [(h0, .inr (0, [.ref h1, .ref h2, .int (nI nn), .int (nI q)])), (h1, .inl (cA, 512, .inl f)), (h2, .inl (cB, 512, .inl S))] := by (subst e_ee; subst e_i; subst e_f; subst e_q; exact hD)
  have k1 : a < ee := by (subst e_ee; subst e_i; subst e_f; subst e_q; exact zn_ge _ _ _)
  have k2 : ee ≤ b := by (subst e_ee; subst e_i; subst e_f; subst e_q; exact z_nxb g1 g2 g4)
  have k3 : zG M f a ee := by (subst e_ee; subst e_i; subst e_f; subst e_q; exact zG_0 i2 (by omega) i4)
  have k4 : q = zc (zm f) nn := by (subst e_ee; subst e_i; subst e_f; subst e_q; exact i5)
  have k5 : i + q = pp := by (subst e_ee; subst e_i; subst e_f; subst e_q; exact Nat.zero_add _)
  have k6 : ee = nn ∨ zm f ee = true := by (subst e_ee; subst e_i; subst e_f; subst e_q; exact z_nxo (by omega))
  clear e_ee e_i e_f e_q
  obtain ⟨f9, hf9⟩ : ∃ f9 : Nat, nn - ee < f9 := ⟨_, Nat.lt_succ_self _⟩
  induction f9 generalizing ls H locs ee i f q with
  | zero => exact absurd hf9 (Nat.not_lt_zero _)
  | succ f9 ih =>
    have hpp : pp < 16385 := by (rw [i5]; have := zc_le (zm M) nn; omega)
    have hfa : zm f a = true := by (rw [zG_out k3 (by omega) (Or.inl (Nat.le_refl _))]; exact g3)
    have hq1 : 1 ≤ q := by (rw [k4]; exact zc_pos (show a < nn by omega) hfa)
    have hf4 : ∀ j, nn ≤ j → j < 16384 → zm f j = false := fun j x1 x2 => by (rw [zG_out k3 x2 (Or.inr (by omega))]; exact i4 j x1 x2)
    refine lv_iload hx hb d_X_merge_15 (lv_at hl 5 rfl) ?_
    refine lv_iload_n hx hb d_X_merge_17 rfl (lv_at hl 3 rfl) ?_
    refine lv_icmp_ge (tgt := 71) hx hb d_X_merge_18 (by decide) (fun c1 => ?_) (fun c1 => ?_)
    · replace c1 : pp ≤ i := (nI_leI (a := pp) (b := i) (by omega) (by omega)).mp c1
      omega
    · replace c1 : ¬ (pp ≤ i) := fun h9 => c1 ((nI_leI (a := pp) (b := i) (by omega) (by omega)).mpr h9)
      refine lv_iload hx hb d_X_merge_21 (lv_at hl 4 rfl) ?_
      refine lv_iload_n hx hb d_X_merge_23 rfl (lv_at hl 2 rfl) ?_
      refine lv_icmp_ge (tgt := 71) hx hb d_X_merge_24 (by decide) (fun c2 => ?_) (fun c2 => ?_)
      · replace c2 : b ≤ ee := (nI_leI (a := b) (b := ee) (by omega) (by omega)).mp c2
        have eb : ee = b := by omega
        subst eb
        refine lv_aload_n hx hb d_X_merge_71 rfl (lv_at hl 0 rfl) ?_
        refine lv_iload_n hx hb d_X_merge_72 rfl (lv_at hl 1 rfl) ?_
        refine lv_iload_n hx hb d_X_merge_73 rfl (lv_at hl 2 rfl) ?_
        refine cc_Vv (wc := [(h0, .inr (0, [.ref h1, .ref h2, .int (nI nn), .int (nI q)])), (h1, .inl (cA, 512, .inl f)), (h2, .inl (cB, 512, .inl S))]) (wr := []) (tys' := [(cA, .int), (cB, .int)]) ⟨hx, hb, hml, hown, hts⟩ hP hD hK hS hA [0, 1, 2] [] [0, 1] rfl rfl rfl (by decide) (by decide) (by decide) rfl (c_tellStarts l dC dI h0 h1 h2 cA cB _ f S (nI nn) _ a _ (by omega) (by omega)) (cwV 2 hts g_X_96 rfl rfl rfl (by decide +kernel) ⟨Nat.le_of_ble_eq_true rfl, Nat.le_of_ble_eq_true rfl⟩) 0 0 rfl rfl rfl rfl hl.1 rfl (Nat.le_of_ble_eq_true rfl) d_X_merge_74 ⟨Nat.le_of_ble_eq_true rfl, Nat.le_of_ble_eq_true rfl⟩ (fun S2 H locs hw hP hD hS => ?_)
        replace hP : va_P (dC, dI) vwCl [(h0, .inr (0, [.ref h1, .ref h2, .int (nI nn), .int (nI q)])), (h1, .inl (cA, 512, .inl f)), (h2, .inl (cB, 512, .inl S2))] H := hP
        replace hD : va_D A [(h0, .inr (0, [.ref h1, .ref h2, .int (nI nn), .int (nI q)])), (h1, .inl (cA, 512, .inl f)), (h2, .inl (cB, 512, .inl S2))] := hD
        exact W.vret hx hb hr (fun t9 ht9 hW9 => ⟨⟨(f, S2, q), rfl, ⟨by rw [k4]; exact z_merge g0 g1 g2 g3 g4 k3 hw, k3⟩, by rw [ht9]; exact hP, va_K.moved hW9.alike hK, hD⟩, hS.F ht9⟩) hS.2.2 d_X_merge_77
      · replace c2 : ¬ (b ≤ ee) := fun h9 => c2 ((nI_leI (a := b) (b := ee) (by omega) (by omega)).mpr h9)
        have hlt : ee < b := by omega
        have hfe : zm f ee = true := k6.elim (fun z => absurd z (by omega)) id
        refine lv_aload_n hx hb d_X_merge_27 rfl (lv_at hl 0 rfl) ?_
        refine va_get (D := (dC, dI)) (ci := 0) (v := .ref h1) (C := RX) (T := TX) (N := 4) hx hb hts inX hown hK hP 0 rfl rfl 0 (by decide) (hts _ wl_X_9) (fun _ h9 => h9) rfl d_X_merge_28 ?_
        refine lv_iload hx hb d_X_merge_31 (lv_at hl 4 rfl) ?_
        refine lv_bipush (v := nI 32) hx hb d_X_merge_33 (by decide) ?_
        refine lv_idiv hx hb d_X_merge_35 (by decide) ?_
        refine lv_topi (nm_r (show _ = nI (ee / 32) from pk_div (by omega) (by omega) (by omega)) ?_)
        refine lv_dup2_11 hx hb d_X_merge_36 rfl rfl ?_
        refine va_iald hx hb hK hP 1 0 rfl rfl (vp_in_nI (by omega) (by decide)) d_X_merge_37 ?_
        refine lv_topi (nm_r (show _ = f (ee / 32) from by rw [nI_clamp (by omega)]) ?_)
        refine lv_iload hx hb d_X_merge_38 (lv_at hl 4 rfl) ?_
        refine cc_Si (wc := []) (wr := [(h0, .inr (0, [.ref h1, .ref h2, .int (nI nn), .int (nI q)])), (h1, .inl (cA, 512, .inl f)), (h2, .inl (cB, 512, .inl S))]) (tys' := []) ⟨hx, hb, hml, hown, hts⟩ hP hD hK hS hA [] [0, 1, 2] [] rfl rfl rfl (by decide) (by decide) (by decide) rfl (c_bitOf l dC dI _ ee (by omega)) (va_cwS 1 hts g_X_93 rfl rfl rfl (by decide +kernel) ⟨Nat.le_of_ble_eq_true rfl, Nat.le_of_ble_eq_true rfl⟩) rfl hl.1 rfl (Nat.le_of_ble_eq_true rfl) d_X_merge_40 ⟨Nat.le_of_ble_eq_true rfl, Nat.le_of_ble_eq_true rfl⟩ (fun r_9 u H locs hw hP hD hS => ?_)
        replace hP : va_P (dC, dI) vwCl [(h0, .inr (0, [.ref h1, .ref h2, .int (nI nn), .int (nI q)])), (h1, .inl (cA, 512, .inl f)), (h2, .inl (cB, 512, .inl S))] H := hP
        replace hD : va_D A [(h0, .inr (0, [.ref h1, .ref h2, .int (nI nn), .int (nI q)])), (h1, .inl (cA, 512, .inl f)), (h2, .inl (cB, 512, .inl S))] := hD
        subst hw
        refine lv_iconst (v := (-1 : Int32)) hx hb d_X_merge_43 (by decide) ?_
        refine lv_ixor hx hb d_X_merge_44 ?_
        refine lv_iand hx hb d_X_merge_45 ?_
        refine va_iast hx hb hK hP hD hS 1 0 rfl rfl (vp_in_nI (by omega) (by decide)) d_X_merge_46 (fun H locs hP hD hS => ?_)
        rw [nI_clamp (by omega)] at hP hD
        replace hP : va_P (dC, dI) vwCl [(h0, .inr (0, [.ref h1, .ref h2, .int (nI nn), .int (nI q)])), (h1, .inl (cA, 512, .inl (upd f (ee / 32) ((f (ee / 32)) &&& (((1 : Int32) <<< (nI (ee % 32) &&& 31)) ^^^ (-1 : Int32)))))), (h2, .inl (cB, 512, .inl S))] H := hP
        replace hD : va_D A [(h0, .inr (0, [.ref h1, .ref h2, .int (nI nn), .int (nI q)])), (h1, .inl (cA, 512, .inl (upd f (ee / 32) ((f (ee / 32)) &&& (((1 : Int32) <<< (nI (ee % 32) &&& 31)) ^^^ (-1 : Int32)))))), (h2, .inl (cB, 512, .inl S))] := hD
        obtain ⟨M2, eM⟩ : ∃ M2 : Nat → Int32, M2 = upd f (ee / 32) ((f (ee / 32)) &&& (((1 : Int32) <<< (nI (ee % 32) &&& 31)) ^^^ (-1 : Int32))) := ⟨_, rfl⟩
        rw [← eM] at hP hD
        have hM2 : ∀ j, zm M2 j = (zm f j && !decide (j = ee)) := fun j => by (rw [eM, zm_clr (Nat.mod_lt _ (by decide))]; rw [show 32 * (ee / 32) + ee % 32 = ee by omega])
        clear eM
        have h4 : ∀ j, nn ≤ j → j < 16384 → zm M2 j = false := fun j x1 x2 => by (rw [hM2, hf4 j x1 x2]; rfl)
        have hq2 : zc (zm f) nn = zc (zm M2) nn + 1 := zc_set (show ee < nn by omega) (by rw [hM2, decide_eq_true rfl]; simp) hfe (fun j _ hj => by rw [hM2, decide_eq_false hj]; simp)
        refine lv_aload_n hx hb d_X_merge_47 rfl (lv_at hl 0 rfl) ?_
        refine lv_dup hx hb d_X_merge_48 rfl ?_
        refine va_get (D := (dC, dI)) (ci := 0) (v := .int (nI q)) (C := RX) (T := TX) (N := 4) hx hb hts inX hown hK hP 0 rfl rfl 3 (by decide) (hts _ wl_X_53) (fun _ h9 => h9) rfl d_X_merge_49 ?_
        refine lv_iconst (v := nI 1) hx hb d_X_merge_52 (by decide) ?_
        refine lv_isub hx hb d_X_merge_53 ?_
        refine lv_topi (nm_r (show _ = nI (q - 1) from pk_sub (by omega)) ?_)
        refine va_put (D := (dC, dI)) (ci := 0) (v := .int (nI (q - 1))) (ty := .int) (C := RX) (T := TX) (N := 4) hx hb hts inX tyX tyX_ok nmX hown hK hP hD hS 0 rfl rfl 3 (by decide) (hts _ wl_X_53) (fun _ h9 => h9) rfl (by decide +kernel) rfl rfl (Nat.le_of_ble_eq_true rfl) d_X_merge_54 (fun H locs hP hD hS => ?_)
        replace hP : va_P (dC, dI) vwCl [(h0, .inr (0, [.ref h1, .ref h2, .int (nI nn), .int (nI (q - 1))])), (h1, .inl (cA, 512, .inl M2)), (h2, .inl (cB, 512, .inl S))] H := hP
        replace hD : va_D A [(h0, .inr (0, [.ref h1, .ref h2, .int (nI nn), .int (nI (q - 1))])), (h1, .inl (cA, 512, .inl M2)), (h2, .inl (cB, 512, .inl S))] := hD
        refine lv_aload_n hx hb d_X_merge_57 rfl (lv_at hl 0 rfl) ?_
        refine lv_iload hx hb d_X_merge_58 (lv_at hl 4 rfl) ?_
        refine cc_Vi (wc := [(h0, .inr (0, [.ref h1, .ref h2, .int (nI nn), .int (nI (q - 1))])), (h1, .inl (cA, 512, .inl M2)), (h2, .inl (cB, 512, .inl S))]) (wr := []) (tys' := [(cA, .int), (cB, .int)]) ⟨hx, hb, hml, hown, hts⟩ hP hD hK hS hA [0, 1, 2] [] [0, 1] rfl rfl rfl (by decide) (by decide) (by decide) rfl (c_endOf l dC dI h0 h1 h2 cA cB _ M2 S nn _ ee (by omega) i2 h4) (cwV 1 hts g_X_41 rfl rfl rfl (by decide +kernel) ⟨Nat.le_of_ble_eq_true rfl, Nat.le_of_ble_eq_true rfl⟩) 0 0 rfl rfl rfl rfl hl.1 rfl (Nat.le_of_ble_eq_true rfl) d_X_merge_60 ⟨Nat.le_of_ble_eq_true rfl, Nat.le_of_ble_eq_true rfl⟩ (fun r_9 u H locs hw hP hD hS => ?_)
        replace hP : va_P (dC, dI) vwCl [(h0, .inr (0, [.ref h1, .ref h2, .int (nI nn), .int (nI (q - 1))])), (h1, .inl (cA, 512, .inl M2)), (h2, .inl (cB, 512, .inl S))] H := hP
        replace hD : va_D A [(h0, .inr (0, [.ref h1, .ref h2, .int (nI nn), .int (nI (q - 1))])), (h1, .inl (cA, 512, .inl M2)), (h2, .inl (cB, 512, .inl S))] := hD
        subst hw
        have x1 := zn_ge (zm M2) nn (ee + 1)
        have x2 := zG_next i2 k3 k1 hlt g2 g4 hM2
        have x3 := zG_s i2 k3 k1 (by omega) hM2
        have x4 : q - 1 = zc (zm M2) nn := by omega
        have x6 : zn (zm M2) nn (ee + 1) = nn ∨ zm M2 (zn (zm M2) nn (ee + 1)) = true := z_nxo (by omega)
        refine lv_istore (lv' := [(4, .int (nI (zn (zm M2) nn (ee + 1)))), (0, .ref h0), (1, .int (nI a)), (2, .int (nI b)), (3, .int (nI pp)), (5, .int (nI i))]) hx hb d_X_merge_63 hl (by decide) rfl (fun ls hl => ?_)
        refine lv_iinc (v := nI (i + 1)) (lv' := [(5, .int (nI (i + 1))), (4, .int (nI (zn (zm M2) nn (ee + 1)))), (0, .ref h0), (1, .int (nI a)), (2, .int (nI b)), (3, .int (nI pp))]) hx hb d_X_merge_65 hl (k := 5) rfl (nI_1 _) (by decide) rfl (fun ls hl => ?_)
        refine lv_goto (tgt := 15) hx hb d_X_merge_68 (by decide) ?_
        apply ih (ls := ls) (H := H) (locs := locs) (ee := zn (zm M2) nn (ee + 1)) (i := i + 1) (f := M2) (q := q - 1) <;> first | assumption | exact lv_sub hl [2, 3, 4, 5, 1, 0] rfl | omega
set_option maxHeartbeats 4000000 in
set_option maxRecDepth 100000 in
/-- layOnePiece(k) -/
theorem c_layOnePiece (l : Launch) (dC : Nat → ClassId) (dI : Nat → Nat → Nat) (h0 h1 h2 : Nat) (cA cB : ClassId) (sz : Nat) (M S : Nat → Int32) (nv pv : Int32) (k : Nat) (g0 : 1 ≤ k) (g1 : k ≤ 16384) : Met l y_X_layOnePiece ws_X_layOnePiece ({ frames := 1, cells := 0, slots := 0, locals := 23 }) (va_Pc [.ref h0, .int (nI k)] (cc_P (dC, dI) vwCl (wX h0 h1 h2 cA cB M S nv pv) (tX cA cB) sz)) (va_Qv (S := (Nat → Int32) × (Nat → Int32)) (fun u : (Nat → Int32) × (Nat → Int32) => zCI k 1 u.1 u.2 ∧ ∀ j, j < 16384 → zm u.1 j = decide (j = 0)) (fun u t => cc_B (dC, dI) vwCl (tX cA cB) (va_A (wX h0 h1 h2 cA cB M S nv pv) sz) ((fun u : (Nat → Int32) × (Nat → Int32) => (wX h0 h1 h2 cA cB u.1 u.2 (nI k) (nI 1))) u) t) (va_A (wX h0 h1 h2 cA cB M S nv pv) sz)) 0 0 (va_A (wX h0 h1 h2 cA cB M S nv pv) sz) := by
  refine Met.ofW (cc := c_X_layOnePiece) (maxL := 2) (ret := none) (by decide) rfl ?_
  intro p e s m args below meth c s₁ B hml hv
  obtain ⟨rfl, hsz, hP, hK, hD0⟩ := hv
  have hx := B.exec
  have hb := B.bytes
  have hr := B.returns
  have hts : ∀ w ∈ zAll, w.before _ s = true := fun w h => atoms_spec (ws := ws_X_layOnePiece) B.pre w (List.mem_cons_of_mem _ h)
  have hown : s.vm.findClass RX = some m.cls := findClass_of_methodNamed B.named
  have hlocks := B.notSynchronized
  subst hsz
  have hD := hD0.self (sz := s.heap.size)
  generalize hAe : va_A (wX h0 h1 h2 cA cB M S nv pv) s.heap.size = A at hD ⊢
  have hA : ∀ q : Nat, s.heap.size ≤ q → A q := fun q h => by rw [← hAe]; exact Or.inr h
  have hS : va_S A s.heap s.heap [] := va_S.rf
  replace hP : va_P (dC, dI) vwCl [(h0, .inr (0, [.ref h1, .ref h2, .int nv, .int pv])), (h1, .inl (cA, 512, .inl M)), (h2, .inl (cB, 512, .inl S))] s.heap := hP
  replace hD : va_D A [(h0, .inr (0, [.ref h1, .ref h2, .int nv, .int pv])), (h1, .inl (cA, 512, .inl M)), (h2, .inl (cB, 512, .inl S))] := hD
  have hl := lv_entry ([.ref h0, .int (nI k)]) (n := 2) (Nat.le_of_ble_eq_true rfl)
  rw [lg_entry_eq]
  generalize (lg_sl ([.ref h0, .int (nI k)]) ++ List.replicate (2 - (lg_sl ([.ref h0, .int (nI k)])).length) Slot.unset).toArray = ls at hl ⊢
  replace hl : lv_has ls 2 [(0, .ref h0), (1, .int (nI k))] := hl
  refine lv_aload_n hx hb d_X_layOnePiece_0 rfl (lv_at hl 0 rfl) ?_
  refine va_get (D := (dC, dI)) (ci := 0) (v := .ref h1) (C := RX) (T := TX) (N := 4) hx hb hts inX hown hK hP 0 rfl rfl 0 (by decide) (hts _ wl_X_9) (fun _ h9 => h9) rfl d_X_layOnePiece_1 ?_
  refine lv_iconst (v := nI 0) hx hb d_X_layOnePiece_4 (by decide) ?_
  refine cc_Sv (wc := [(h1, .inl (cA, 512, .inl M))]) (wr := [(h0, .inr (0, [.ref h1, .ref h2, .int nv, .int pv])), (h2, .inl (cB, 512, .inl S))]) (tys' := [(cA, .int)]) ⟨hx, hb, hml, hown, hts⟩ hP hD hK hS hA [1] [0, 2] [0] rfl rfl rfl (by decide) (by decide) (by decide) rfl (k_fill l dC dI h1 cA _ 512 M (nI 0) (by decide)) (va_cwS 2 hts g_X_78 rfl rfl rfl (by decide +kernel) ⟨Nat.le_of_ble_eq_true rfl, Nat.le_of_ble_eq_true rfl⟩) rfl hl.1 rfl (Nat.le_of_ble_eq_true rfl) d_X_layOnePiece_5 ⟨Nat.le_of_ble_eq_true rfl, Nat.le_of_ble_eq_true rfl⟩ (fun M1 H locs hw1 hP hD hS => ?_)
  replace hP : va_P (dC, dI) vwCl [(h0, .inr (0, [.ref h1, .ref h2, .int nv, .int pv])), (h2, .inl (cB, 512, .inl S)), (h1, .inl (cA, 512, .inl M1))] H := hP
  replace hD : va_D A [(h0, .inr (0, [.ref h1, .ref h2, .int nv, .int pv])), (h2, .inl (cB, 512, .inl S)), (h1, .inl (cA, 512, .inl M1))] := hD
  refine lv_aload_n hx hb d_X_layOnePiece_8 rfl (lv_at hl 0 rfl) ?_
  refine va_get (D := (dC, dI)) (ci := 0) (v := .ref h2) (C := RX) (T := TX) (N := 4) hx hb hts inX hown hK hP 0 rfl rfl 1 (by decide) (hts _ wl_X_13) (fun _ h9 => h9) rfl d_X_layOnePiece_9 ?_
  refine lv_iconst (v := nI 0) hx hb d_X_layOnePiece_12 (by decide) ?_
  refine cc_Sv (wc := [(h2, .inl (cB, 512, .inl S))]) (wr := [(h0, .inr (0, [.ref h1, .ref h2, .int nv, .int pv])), (h1, .inl (cA, 512, .inl M1))]) (tys' := [(cB, .int)]) ⟨hx, hb, hml, hown, hts⟩ hP hD hK hS hA [1] [0, 2] [1] rfl rfl rfl (by decide) (by decide) (by decide) rfl (k_fill l dC dI h2 cB _ 512 S (nI 0) (by decide)) (va_cwS 2 hts g_X_78 rfl rfl rfl (by decide +kernel) ⟨Nat.le_of_ble_eq_true rfl, Nat.le_of_ble_eq_true rfl⟩) rfl hl.1 rfl (Nat.le_of_ble_eq_true rfl) d_X_layOnePiece_13 ⟨Nat.le_of_ble_eq_true rfl, Nat.le_of_ble_eq_true rfl⟩ (fun S1 H locs hw2 hP hD hS => ?_)
  replace hP : va_P (dC, dI) vwCl [(h0, .inr (0, [.ref h1, .ref h2, .int nv, .int pv])), (h1, .inl (cA, 512, .inl M1)), (h2, .inl (cB, 512, .inl S1))] H := hP
  replace hD : va_D A [(h0, .inr (0, [.ref h1, .ref h2, .int nv, .int pv])), (h1, .inl (cA, 512, .inl M1)), (h2, .inl (cB, 512, .inl S1))] := hD
  refine lv_aload_n hx hb d_X_layOnePiece_16 rfl (lv_at hl 0 rfl) ?_
  refine va_get (D := (dC, dI)) (ci := 0) (v := .ref h1) (C := RX) (T := TX) (N := 4) hx hb hts inX hown hK hP 0 rfl rfl 0 (by decide) (hts _ wl_X_9) (fun _ h9 => h9) rfl d_X_layOnePiece_17 ?_
  refine lv_iconst (v := nI 0) hx hb d_X_layOnePiece_20 (by decide) ?_
  refine lv_iconst (v := nI 1) hx hb d_X_layOnePiece_21 (by decide) ?_
  refine va_iast hx hb hK hP hD hS 1 0 rfl rfl (vp_in_nI (by omega) (by decide)) d_X_layOnePiece_22 (fun H locs hP hD hS => ?_)
  rw [nI_clamp (by omega)] at hP hD
  replace hP : va_P (dC, dI) vwCl [(h0, .inr (0, [.ref h1, .ref h2, .int nv, .int pv])), (h1, .inl (cA, 512, .inl (upd M1 0 (nI 1)))), (h2, .inl (cB, 512, .inl S1))] H := hP
  replace hD : va_D A [(h0, .inr (0, [.ref h1, .ref h2, .int nv, .int pv])), (h1, .inl (cA, 512, .inl (upd M1 0 (nI 1)))), (h2, .inl (cB, 512, .inl S1))] := hD
  refine lv_aload_n hx hb d_X_layOnePiece_23 rfl (lv_at hl 0 rfl) ?_
  refine lv_iload_n hx hb d_X_layOnePiece_24 rfl (lv_at hl 1 rfl) ?_
  refine va_put (D := (dC, dI)) (ci := 0) (v := .int (nI k)) (ty := .int) (C := RX) (T := TX) (N := 4) hx hb hts inX tyX tyX_ok nmX hown hK hP hD hS 0 rfl rfl 2 (by decide) (hts _ wl_X_27) (fun _ h9 => h9) rfl (by decide +kernel) rfl rfl (Nat.le_of_ble_eq_true rfl) d_X_layOnePiece_25 (fun H locs hP hD hS => ?_)
  replace hP : va_P (dC, dI) vwCl [(h0, .inr (0, [.ref h1, .ref h2, .int (nI k), .int pv])), (h1, .inl (cA, 512, .inl (upd M1 0 (nI 1)))), (h2, .inl (cB, 512, .inl S1))] H := hP
  replace hD : va_D A [(h0, .inr (0, [.ref h1, .ref h2, .int (nI k), .int pv])), (h1, .inl (cA, 512, .inl (upd M1 0 (nI 1)))), (h2, .inl (cB, 512, .inl S1))] := hD
  refine lv_aload_n hx hb d_X_layOnePiece_28 rfl (lv_at hl 0 rfl) ?_
  refine lv_iconst (v := nI 1) hx hb d_X_layOnePiece_29 (by decide) ?_
  refine va_put (D := (dC, dI)) (ci := 0) (v := .int (nI 1)) (ty := .int) (C := RX) (T := TX) (N := 4) hx hb hts inX tyX tyX_ok nmX hown hK hP hD hS 0 rfl rfl 3 (by decide) (hts _ wl_X_53) (fun _ h9 => h9) rfl (by decide +kernel) rfl rfl (Nat.le_of_ble_eq_true rfl) d_X_layOnePiece_30 (fun H locs hP hD hS => ?_)
  replace hP : va_P (dC, dI) vwCl [(h0, .inr (0, [.ref h1, .ref h2, .int (nI k), .int (nI 1)])), (h1, .inl (cA, 512, .inl (upd M1 0 (nI 1)))), (h2, .inl (cB, 512, .inl S1))] H := hP
  replace hD : va_D A [(h0, .inr (0, [.ref h1, .ref h2, .int (nI k), .int (nI 1)])), (h1, .inl (cA, 512, .inl (upd M1 0 (nI 1)))), (h2, .inl (cB, 512, .inl S1))] := hD
  replace hP := hP.sub (ws' := [(h0, .inr (0, [.ref h1, .ref h2, .int (nI k), .int (nI 1)])), (h1, .inl (cA, 512, .inl (upd M1 0 (nI 1)))), (h2, .inl (cB, 512, .inl S1))]) [0, 1, 2] rfl
  replace hD := hD.sub (ws' := [(h0, .inr (0, [.ref h1, .ref h2, .int (nI k), .int (nI 1)])), (h1, .inl (cA, 512, .inl (upd M1 0 (nI 1)))), (h2, .inl (cB, 512, .inl S1))]) [0, 1, 2] (by decide) rfl
  exact W.vret hx hb hr (fun t9 ht9 hW9 => ⟨⟨(upd M1 0 (nI 1), S1), rfl, z_lay g0 g1 hw1 hw2, by rw [ht9]; exact hP, va_K.moved hW9.alike hK, hD⟩, hS.F ht9⟩) hS.2.2 d_X_layOnePiece_33
set_option maxHeartbeats 4000000 in
set_option maxRecDepth 100000 in
/-- outermostSize(g) -/
theorem c_outermostSize (l : Launch) (dC : Nat → ClassId) (dI : Nat → Nat → Nat) (h0 h1 h2 : Nat) (cA cB : ClassId) (sz : Nat) (M S : Nat → Int32) (nn pp : Nat) (g9 : Bool) (g0 : zCI nn pp M S) : Met l y_X_outermostSize ws_X_outermostSize ({ frames := 3, cells := 0, slots := 0, locals := 67 }) (va_Pc [.ref h0, .int (if g9 then 1 else 0)] (cc_P (dC, dI) vwCl (wX h0 h1 h2 cA cB M S (nI nn) (nI pp)) (tX cA cB) sz)) (va_Qi (S := Unit) (fun (r : Int32) (_ : Unit) => r = nI (zF (if g9 then max else min) (zm M) nn (pp - 1) (zn (zm M) nn 1) (zn (zm M) nn 1))) (fun u t => cc_B (dC, dI) vwCl (tX cA cB) (va_A (wX h0 h1 h2 cA cB M S (nI nn) (nI pp)) sz) ((fun _ : Unit => (wX h0 h1 h2 cA cB M S (nI nn) (nI pp))) u) t) (va_A (wX h0 h1 h2 cA cB M S (nI nn) (nI pp)) sz)) 0 0 (va_A (wX h0 h1 h2 cA cB M S (nI nn) (nI pp)) sz) := by
  refine Met.ofW (cc := c_X_outermostSize) (maxL := 7) (ret := (some .int)) (by decide) rfl ?_
  intro p e s m args below meth c s₁ B hml hv
  obtain ⟨rfl, hsz, hP, hK, hD0⟩ := hv
  have hx := B.exec
  have hb := B.bytes
  have hr := B.returns
  have hts : ∀ w ∈ zAll, w.before _ s = true := fun w h => atoms_spec (ws := ws_X_outermostSize) B.pre w (List.mem_cons_of_mem _ h)
  have hown : s.vm.findClass RX = some m.cls := findClass_of_methodNamed B.named
  have hlocks := B.notSynchronized
  subst hsz
  have hD := hD0.self (sz := s.heap.size)
  generalize hAe : va_A (wX h0 h1 h2 cA cB M S (nI nn) (nI pp)) s.heap.size = A at hD ⊢
  have hA : ∀ q : Nat, s.heap.size ≤ q → A q := fun q h => by rw [← hAe]; exact Or.inr h
  have hS : va_S A s.heap s.heap [] := va_S.rf
  replace hP : va_P (dC, dI) vwCl [(h0, .inr (0, [.ref h1, .ref h2, .int (nI nn), .int (nI pp)])), (h1, .inl (cA, 512, .inl M)), (h2, .inl (cB, 512, .inl S))] s.heap := hP
  replace hD : va_D A [(h0, .inr (0, [.ref h1, .ref h2, .int (nI nn), .int (nI pp)])), (h1, .inl (cA, 512, .inl M)), (h2, .inl (cB, 512, .inl S))] := hD
  have hl := lv_entry ([.ref h0, .int (if g9 then 1 else 0)]) (n := 7) (Nat.le_of_ble_eq_true rfl)
  rw [lg_entry_eq]
  generalize (lg_sl ([.ref h0, .int (if g9 then 1 else 0)]) ++ List.replicate (7 - (lg_sl ([.ref h0, .int (if g9 then 1 else 0)])).length) Slot.unset).toArray = ls at hl ⊢
  replace hl : lv_has ls 7 [(0, .ref h0), (1, .int (if g9 then 1 else 0))] := hl
  have gi := g0
  obtain ⟨i1, i2, i3, i4, i5, i6⟩ := gi
  have hpp : pp < 16385 := by (rw [i5]; have := zc_le (zm M) nn; omega)
  have hp1 : 1 ≤ pp := by (rw [i5]; exact zc_pos (show 0 < nn by omega) i3)
  refine lv_aload_n hx hb d_X_outermostSize_0 rfl (lv_at hl 0 rfl) ?_
  refine lv_iconst (v := nI 0) hx hb d_X_outermostSize_1 (by decide) ?_
  refine cc_Vi (wc := [(h0, .inr (0, [.ref h1, .ref h2, .int (nI nn), .int (nI pp)])), (h1, .inl (cA, 512, .inl M)), (h2, .inl (cB, 512, .inl S))]) (wr := []) (tys' := [(cA, .int), (cB, .int)]) ⟨hx, hb, hml, hown, hts⟩ hP hD hK hS hA [0, 1, 2] [] [0, 1] rfl rfl rfl (by decide) (by decide) (by decide) rfl (c_endOf l dC dI h0 h1 h2 cA cB _ M S nn (nI pp) 0 (by omega) i2 i4) (cwV 1 hts g_X_41 rfl rfl rfl (by decide +kernel) ⟨Nat.le_of_ble_eq_true rfl, Nat.le_of_ble_eq_true rfl⟩) 0 0 rfl rfl rfl rfl hl.1 rfl (Nat.le_of_ble_eq_true rfl) d_X_outermostSize_2 ⟨Nat.le_of_ble_eq_true rfl, Nat.le_of_ble_eq_true rfl⟩ (fun r_9 u H locs hw hP hD hS => ?_)
  replace hP : va_P (dC, dI) vwCl [(h0, .inr (0, [.ref h1, .ref h2, .int (nI nn), .int (nI pp)])), (h1, .inl (cA, 512, .inl M)), (h2, .inl (cB, 512, .inl S))] H := hP
  replace hD : va_D A [(h0, .inr (0, [.ref h1, .ref h2, .int (nI nn), .int (nI pp)])), (h1, .inl (cA, 512, .inl M)), (h2, .inl (cB, 512, .inl S))] := hD
  subst hw
  refine lv_istore_n (lv' := [(2, .int (nI (zn (zm M) nn (0 + 1)))), (0, .ref h0), (1, .int (if g9 then 1 else 0))]) hx hb d_X_outermostSize_5 rfl hl (by decide) rfl (fun ls hl => ?_)
  refine lv_iload_n hx hb d_X_outermostSize_6 rfl (lv_at hl 0 rfl) ?_
  refine lv_istore_n (lv' := [(3, .int (nI (zn (zm M) nn (0 + 1)))), (2, .int (nI (zn (zm M) nn (0 + 1)))), (0, .ref h0), (1, .int (if g9 then 1 else 0))]) hx hb d_X_outermostSize_7 rfl hl (by decide) rfl (fun ls hl => ?_)
  refine lv_iconst (v := nI 1) hx hb d_X_outermostSize_8 (by decide) ?_
  refine lv_istore (lv' := [(4, .int (nI 1)), (3, .int (nI (zn (zm M) nn (0 + 1)))), (2, .int (nI (zn (zm M) nn (0 + 1)))), (0, .ref h0), (1, .int (if g9 then 1 else 0))]) hx hb d_X_outermostSize_9 hl (by decide) rfl (fun ls hl => ?_)
  refine cc_from hP hD hS (fun H locs hP hD hS => ?_)
  obtain ⟨ac, e_ac⟩ : ∃ ac : Nat, ac = zn (zm M) nn (0 + 1) := ⟨_, rfl⟩
  obtain ⟨fr, e_fr⟩ : ∃ fr : Nat, fr = zn (zm M) nn (0 + 1) := ⟨_, rfl⟩
  obtain ⟨i, e_i⟩ : ∃ i : Nat, i = 1 := ⟨_, rfl⟩
  replace hl : lv_has ls 7 [(0, .ref h0), (1, .int (if g9 then 1 else 0)), (2, .int (nI ac)), (3, .int (nI fr)), (4, .int (nI i))] := by (subst e_ac; subst e_fr; subst e_i; exact lv_sub hl [3, 4, 2, 1, 0] rfl)
  have k1 : fr ≤ nn := by (subst e_ac; subst e_fr; subst e_i; exact zn_le (by omega))
  have k2 : fr = nn ∨ zm M fr = true := by (subst e_ac; subst e_fr; subst e_i; exact z_nxo (by omega))
  have k3 : zc (zm M) fr = i := by (subst e_ac; subst e_fr; subst e_i; exact (zc_next i3 (by omega)).trans rfl)
  have k4 : zF (if g9 then max else min) (zm M) nn (pp - i) fr ac = zF (if g9 then max else min) (zm M) nn (pp - 1) (zn (zm M) nn 1) (zn (zm M) nn 1) := by (subst e_ac; subst e_fr; subst e_i; rfl)
  have k5 : ac ≤ nn := by (subst e_ac; subst e_fr; subst e_i; exact zn_le (by omega))
  have k6 : i ≤ pp := by (subst e_ac; subst e_fr; subst e_i; exact hp1)
  clear e_ac e_fr e_i
  obtain ⟨f9, hf9⟩ : ∃ f9 : Nat, pp - i < f9 := ⟨_, Nat.lt_succ_self _⟩
  induction f9 generalizing ls H locs ac fr i with
  | zero => exact absurd hf9 (Nat.not_lt_zero _)
  | succ f9 ih =>
    refine lv_iload hx hb d_X_outermostSize_11 (lv_at hl 4 rfl) ?_
    refine lv_aload_n hx hb d_X_outermostSize_13 rfl (lv_at hl 0 rfl) ?_
    refine va_get (D := (dC, dI)) (ci := 0) (v := .int (nI pp)) (C := RX) (T := TX) (N := 4) hx hb hts inX hown hK hP 0 rfl rfl 3 (by decide) (hts _ wl_X_53) (fun _ h9 => h9) rfl d_X_outermostSize_14 ?_
    refine lv_icmp_ge (tgt := 62) hx hb d_X_outermostSize_17 (by decide) (fun c1 => ?_) (fun c1 => ?_)
    · replace c1 : pp ≤ i := (nI_leI (a := pp) (b := i) (by omega) (by omega)).mp c1
      refine lv_iload_n hx hb d_X_outermostSize_62 rfl (lv_at hl 2 rfl) ?_
      exact W.iret (v := nI ac) hx hb hr (fun t9 ht9 hW9 => ⟨⟨nI ac, (), rfl, by (rw [← k4, show pp - i = 0 by omega]; rfl), by rw [ht9]; exact hP, va_K.moved hW9.alike hK, hD⟩, hS.F ht9⟩) hS.2.2 d_X_outermostSize_63
    · replace c1 : ¬ (pp ≤ i) := fun h9 => c1 ((nI_leI (a := pp) (b := i) (by omega) (by omega)).mpr h9)
      have hlt : fr < nn := (Nat.lt_or_ge fr nn).elim id (fun z => absurd k3 (by rw [show fr = nn by omega, ← i5]; omega))
      have hon : zm M fr = true := k2.elim (fun z => absurd z (by omega)) id
      refine lv_aload_n hx hb d_X_outermostSize_20 rfl (lv_at hl 0 rfl) ?_
      refine lv_iload_n hx hb d_X_outermostSize_21 rfl (lv_at hl 3 rfl) ?_
      refine cc_Vi (wc := [(h0, .inr (0, [.ref h1, .ref h2, .int (nI nn), .int (nI pp)])), (h1, .inl (cA, 512, .inl M)), (h2, .inl (cB, 512, .inl S))]) (wr := []) (tys' := [(cA, .int), (cB, .int)]) ⟨hx, hb, hml, hown, hts⟩ hP hD hK hS hA [0, 1, 2] [] [0, 1] rfl rfl rfl (by decide) (by decide) (by decide) rfl (c_endOf l dC dI h0 h1 h2 cA cB _ M S nn (nI pp) fr hlt i2 i4) (cwV 1 hts g_X_41 rfl rfl rfl (by decide +kernel) ⟨Nat.le_of_ble_eq_true rfl, Nat.le_of_ble_eq_true rfl⟩) 0 0 rfl rfl rfl rfl hl.1 rfl (Nat.le_of_ble_eq_true rfl) d_X_outermostSize_22 ⟨Nat.le_of_ble_eq_true rfl, Nat.le_of_ble_eq_true rfl⟩ (fun r_9 u H locs hw hP hD hS => ?_)
      replace hP : va_P (dC, dI) vwCl [(h0, .inr (0, [.ref h1, .ref h2, .int (nI nn), .int (nI pp)])), (h1, .inl (cA, 512, .inl M)), (h2, .inl (cB, 512, .inl S))] H := hP
      replace hD : va_D A [(h0, .inr (0, [.ref h1, .ref h2, .int (nI nn), .int (nI pp)])), (h1, .inl (cA, 512, .inl M)), (h2, .inl (cB, 512, .inl S))] := hD
      subst hw
      have e1 := zn_ge (zm M) nn (fr + 1)
      have e2 : zn (zm M) nn (fr + 1) ≤ nn := zn_le (by omega)
      have e3 : zn (zm M) nn (fr + 1) = nn ∨ zm M (zn (zm M) nn (fr + 1)) = true := z_nxo (by omega)
      have e4 : zc (zm M) (zn (zm M) nn (fr + 1)) = i + 1 := by (rw [← k3]; exact zc_next hon hlt)
      refine lv_istore (lv' := [(5, .int (nI (zn (zm M) nn (fr + 1)))), (0, .ref h0), (1, .int (if g9 then 1 else 0)), (2, .int (nI ac)), (3, .int (nI fr)), (4, .int (nI i))]) hx hb d_X_outermostSize_25 hl (by decide) rfl (fun ls hl => ?_)
      refine lv_iload hx hb d_X_outermostSize_27 (lv_at hl 0 rfl) ?_
      refine lv_iload_n hx hb d_X_outermostSize_29 rfl (lv_at hl 4 rfl) ?_
      refine lv_isub hx hb d_X_outermostSize_30 ?_
      refine lv_topi (nm_r (show _ = nI ((zn (zm M) nn (fr + 1)) - fr) from pk_sub (by omega)) ?_)
      refine lv_istore (lv' := [(6, .int (nI ((zn (zm M) nn (fr + 1)) - fr))), (5, .int (nI (zn (zm M) nn (fr + 1)))), (0, .ref h0), (1, .int (if g9 then 1 else 0)), (2, .int (nI ac)), (3, .int (nI fr)), (4, .int (nI i))]) hx hb d_X_outermostSize_31 hl (by decide) rfl (fun ls hl => ?_)
      refine lv_iload_n hx hb d_X_outermostSize_33 rfl (lv_at hl 3 rfl) ?_
      refine lv_if_eq (tgt := 46) hx hb d_X_outermostSize_34 (by decide) (fun c2 => ?_) (fun c2 => ?_)
      · have eg : g9 = false := by (cases g9 <;> first | rfl | exact absurd rfl c2 | exact absurd c2 (by decide))
        subst eg
        refine lv_iload_n hx hb d_X_outermostSize_46 rfl (lv_at hl 4 rfl) ?_
        refine lv_iload hx hb d_X_outermostSize_47 (lv_at hl 0 rfl) ?_
        refine va_mmin hx hb (hml.trans hl.1.symm) hown (hts _ wl_X_105) (hts _ wst_min) (hts _ win_Math) (hts _ wc_min) (by decide) (by decide) (by decide) (by decide) d_X_outermostSize_49 ?_
        refine lv_topi (nm_r (show _ = nI (min ac ((zn (zm M) nn (fr + 1)) - fr)) from z_min (by omega) (by omega)) ?_)
        refine lv_istore_n (lv' := [(2, .int (nI (min ac ((zn (zm M) nn (fr + 1)) - fr)))), (6, .int (nI ((zn (zm M) nn (fr + 1)) - fr))), (5, .int (nI (zn (zm M) nn (fr + 1)))), (0, .ref h0), (1, .int (if false then 1 else 0)), (3, .int (nI fr)), (4, .int (nI i))]) hx hb d_X_outermostSize_52 rfl hl (by decide) rfl (fun ls hl => ?_)
        refine lv_iload hx hb d_X_outermostSize_53 (lv_at hl 2 rfl) ?_
        refine lv_istore_n (lv' := [(3, .int (nI (zn (zm M) nn (fr + 1)))), (2, .int (nI (min ac ((zn (zm M) nn (fr + 1)) - fr)))), (6, .int (nI ((zn (zm M) nn (fr + 1)) - fr))), (5, .int (nI (zn (zm M) nn (fr + 1)))), (0, .ref h0), (1, .int (if false then 1 else 0)), (4, .int (nI i))]) hx hb d_X_outermostSize_55 rfl hl (by decide) rfl (fun ls hl => ?_)
        refine lv_iinc (v := nI (i + 1)) (lv' := [(4, .int (nI (i + 1))), (3, .int (nI (zn (zm M) nn (fr + 1)))), (2, .int (nI (min ac ((zn (zm M) nn (fr + 1)) - fr)))), (6, .int (nI ((zn (zm M) nn (fr + 1)) - fr))), (5, .int (nI (zn (zm M) nn (fr + 1)))), (0, .ref h0), (1, .int (if false then 1 else 0))]) hx hb d_X_outermostSize_56 hl (k := 6) rfl (nI_1 _) (by decide) rfl (fun ls hl => ?_)
        refine lv_goto (tgt := 11) hx hb d_X_outermostSize_59 (by decide) ?_
        have e5 : zF (if false then max else min) (zm M) nn (pp - (i + 1)) (zn (zm M) nn (fr + 1)) (min ac ((zn (zm M) nn (fr + 1)) - fr)) = zF (if false then max else min) (zm M) nn (pp - 1) (zn (zm M) nn 1) (zn (zm M) nn 1) := by (rw [← k4, show pp - i = (pp - (i + 1)) + 1 by omega]; rfl)
        have e6 : min ac ((zn (zm M) nn (fr + 1)) - fr) ≤ nn := by omega
        apply ih (ls := ls) (H := H) (locs := locs) (ac := min ac ((zn (zm M) nn (fr + 1)) - fr)) (fr := zn (zm M) nn (fr + 1)) (i := i + 1) <;> first | assumption | exact lv_sub hl [5, 6, 2, 1, 0] rfl | omega
      · have eg : g9 = true := by (cases g9 <;> first | rfl | exact absurd rfl c2 | exact absurd c2 (by decide))
        subst eg
        refine lv_iload_n hx hb d_X_outermostSize_37 rfl (lv_at hl 4 rfl) ?_
        refine lv_iload hx hb d_X_outermostSize_38 (lv_at hl 0 rfl) ?_
        refine va_mmax hx hb (hml.trans hl.1.symm) hown (hts _ wl_X_99) (hts _ wst_max) (hts _ win_Math) (hts _ wc_max) (by decide) (by decide) (by decide) (by decide) d_X_outermostSize_40 ?_
        refine lv_topi (nm_r (show _ = nI (max ac ((zn (zm M) nn (fr + 1)) - fr)) from z_max (by omega) (by omega)) ?_)
        refine lv_goto (tgt := 52) hx hb d_X_outermostSize_43 (by decide) ?_
        refine lv_istore_n (lv' := [(2, .int (nI (max ac ((zn (zm M) nn (fr + 1)) - fr)))), (6, .int (nI ((zn (zm M) nn (fr + 1)) - fr))), (5, .int (nI (zn (zm M) nn (fr + 1)))), (0, .ref h0), (1, .int (if true then 1 else 0)), (3, .int (nI fr)), (4, .int (nI i))]) hx hb d_X_outermostSize_52 rfl hl (by decide) rfl (fun ls hl => ?_)
        refine lv_iload hx hb d_X_outermostSize_53 (lv_at hl 2 rfl) ?_
        refine lv_istore_n (lv' := [(3, .int (nI (zn (zm M) nn (fr + 1)))), (2, .int (nI (max ac ((zn (zm M) nn (fr + 1)) - fr)))), (6, .int (nI ((zn (zm M) nn (fr + 1)) - fr))), (5, .int (nI (zn (zm M) nn (fr + 1)))), (0, .ref h0), (1, .int (if true then 1 else 0)), (4, .int (nI i))]) hx hb d_X_outermostSize_55 rfl hl (by decide) rfl (fun ls hl => ?_)
        refine lv_iinc (v := nI (i + 1)) (lv' := [(4, .int (nI (i + 1))), (3, .int (nI (zn (zm M) nn (fr + 1)))), (2, .int (nI (max ac ((zn (zm M) nn (fr + 1)) - fr)))), (6, .int (nI ((zn (zm M) nn (fr + 1)) - fr))), (5, .int (nI (zn (zm M) nn (fr + 1)))), (0, .ref h0), (1, .int (if true then 1 else 0))]) hx hb d_X_outermostSize_56 hl (k := 6) rfl (nI_1 _) (by decide) rfl (fun ls hl => ?_)
        refine lv_goto (tgt := 11) hx hb d_X_outermostSize_59 (by decide) ?_
        have e5 : zF (if true then max else min) (zm M) nn (pp - (i + 1)) (zn (zm M) nn (fr + 1)) (max ac ((zn (zm M) nn (fr + 1)) - fr)) = zF (if true then max else min) (zm M) nn (pp - 1) (zn (zm M) nn 1) (zn (zm M) nn 1) := by (rw [← k4, show pp - i = (pp - (i + 1)) + 1 by omega]; rfl)
        have e6 : max ac ((zn (zm M) nn (fr + 1)) - fr) ≤ nn := by omega
        apply ih (ls := ls) (H := H) (locs := locs) (ac := max ac ((zn (zm M) nn (fr + 1)) - fr)) (fr := zn (zm M) nn (fr + 1)) (i := i + 1) <;> first | assumption | exact lv_sub hl [5, 6, 2, 1, 0] rfl | omega
end
section
set_option maxHeartbeats 4000000 in
set_option maxRecDepth 100000 in
/-- checkCell(x) -/
theorem c_checkCell (l : Launch) (hlt : l.stackTraces = false) (dC : Nat → ClassId) (dI : Nat → Nat → Nat) (h0 h1 h2 : Nat) (cA cB : ClassId) (sz : Nat) (M S : Nat → Int32) (nn : Nat) (pv : Int32) (x : Int32) (g0 : nn ≤ 16384) : vx_Met l y_X_checkCell ws_X_checkCell ({ frames := 6, cells := 1, slots := 6, locals := 90 }) (va_Pc [.ref h0, .int x] (cx_P (dC, dI) vwCl (wX h0 h1 h2 cA cB M S (nI nn) pv) (tX cA cB) sz)) (va_Qv (S := Unit) (fun _ : Unit => ∃ k, k < nn ∧ x = nI k) (fun u t => cc_B (dC, dI) vwCl (tX cA cB) (va_A (wX h0 h1 h2 cA cB M S (nI nn) pv) sz) ((fun _ : Unit => (wX h0 h1 h2 cA cB M S (nI nn) pv)) u) t) (va_A (wX h0 h1 h2 cA cB M S (nI nn) pv) sz)) (cx_X (dC, dI) vwCl (tX cA cB) (wX h0 h1 h2 cA cB M S (nI nn) pv) (va_A (wX h0 h1 h2 cA cB M S (nI nn) pv) sz) "java/lang/IndexOutOfBoundsException" (¬ ∃ k, k < nn ∧ x = nI k)) 1 6 (va_A (wX h0 h1 h2 cA cB M S (nI nn) pv) sz) := by
  refine vx_ofW (cc := c_X_checkCell) (maxL := 2) (ret := none) (by decide) rfl ?_
  intro p e s m args below meth c s₁ B hml htab hv
  obtain ⟨rfl, ⟨hsz, hP, hK, hD0⟩, hZ⟩ := hv
  have hx := B.exec
  have hb := B.bytes
  have hr := B.returns
  have hts : ∀ w ∈ zAll, w.before _ s = true := fun w h => atoms_spec (ws := ws_X_checkCell) B.pre w (List.mem_cons_of_mem _ h)
  have hown : s.vm.findClass RX = some m.cls := findClass_of_methodNamed B.named
  have hlocks := B.notSynchronized
  subst hsz
  have hD := hD0.self (sz := s.heap.size)
  generalize hAe : va_A (wX h0 h1 h2 cA cB M S (nI nn) pv) s.heap.size = A at hD hZ ⊢
  have hA : ∀ q : Nat, s.heap.size ≤ q → A q := fun q h => by rw [← hAe]; exact Or.inr h
  have hS : va_S A s.heap s.heap [] := va_S.rf
  replace hP : va_P (dC, dI) vwCl [(h0, .inr (0, [.ref h1, .ref h2, .int (nI nn), .int pv])), (h1, .inl (cA, 512, .inl M)), (h2, .inl (cB, 512, .inl S))] s.heap := hP
  replace hD : va_D A [(h0, .inr (0, [.ref h1, .ref h2, .int (nI nn), .int pv])), (h1, .inl (cA, 512, .inl M)), (h2, .inl (cB, 512, .inl S))] := hD
  have hl := lv_entry ([.ref h0, .int x]) (n := 2) (Nat.le_of_ble_eq_true rfl)
  rw [lg_entry_eq]
  generalize (lg_sl ([.ref h0, .int x]) ++ List.replicate (2 - (lg_sl ([.ref h0, .int x])).length) Slot.unset).toArray = ls at hl ⊢
  replace hl : lv_has ls 2 [(0, .ref h0), (1, .int x)] := hl
  refine lv_iload_n hx hb d_X_checkCell_0 rfl (lv_at hl 1 rfl) ?_
  refine lv_if_lt (tgt := 12) hx hb d_X_checkCell_1 (by decide) (fun c1 => ?_) (fun c1 => ?_)
  · obtain ⟨sa, hsa⟩ := hZ.1 (RX, 74, "no such cell") (by decide +kernel)
    exact vx_throwS hx hb hlt (own := RX) (cls := "java/lang/IndexOutOfBoundsException") (names := ["java/lang/RuntimeException", "java/lang/Exception"]) hown (by decide +kernel) (by decide +kernel) (hts _ wl_X_48) (hts _ win_IndexOutOfBoundsException) hsa (vx_hat (L := vx_atS RX 52 "java/lang/IndexOutOfBoundsException" ["java/lang/RuntimeException", "java/lang/Exception"]) (fun w hw => hts w (wx_IndexOutOfBoundsException w hw)) wb_IndexOutOfBoundsException (fun w hw => va_Nw.use (zBad_on w hw) (hZ.2.1 w hw))) wg_IndexOutOfBoundsException hZ.2.2.1 hZ.2.2.2 hS (hl.1.trans hml.symm) d_X_checkCell_12 d_X_checkCell_15 d_X_checkCell_16 d_X_checkCell_18 d_X_checkCell_21 (fun x9 h9 => (htab x9 h9).elim) (by decide) (by decide) (by decide) (by decide) hlocks (fun t9 hal hz9 hk9 => ⟨(), fun ⟨k, k1, k2⟩ => nI_pos (n := k) (by omega) (by rw [← k2]; exact c1), ⟨rfl, va_P.kept hP (fun k9 q9 h9 => hk9 q9.1 (vx_lt hP h9)), va_K.moved hal hK, hD⟩, ⟨Nat.le_trans hS.1 hz9, fun q9 a1 a2 => (hk9 q9 (Nat.lt_of_lt_of_le a1 hS.1)).trans (hS.2.1 q9 a1 a2)⟩⟩) hS.2.2 (by decide) (by decide)
  · refine lv_iload_n hx hb d_X_checkCell_4 rfl (lv_at hl 1 rfl) ?_
    refine lv_aload_n hx hb d_X_checkCell_5 rfl (lv_at hl 0 rfl) ?_
    refine va_get (D := (dC, dI)) (ci := 0) (v := .int (nI nn)) (C := RX) (T := TX) (N := 4) hx hb hts inX hown hK hP 0 rfl rfl 2 (by decide) (hts _ wl_X_27) (fun _ h9 => h9) rfl d_X_checkCell_6 ?_
    refine lv_icmp_lt (tgt := 22) hx hb d_X_checkCell_9 (by decide) (fun c2 => ?_) (fun c2 => ?_)
    · refine W.widen (k := 1) (n := 6) (by decide) (by decide) ?_
      refine vx_ret ?_
      exact W.vret hx hb hr (fun t9 ht9 hW9 => ⟨⟨(), rfl, z_inof c1 c2 (by omega), by rw [ht9]; exact hP, va_K.moved hW9.alike hK, hD⟩, hS.F ht9⟩) hS.2.2 d_X_checkCell_22
    · obtain ⟨sa, hsa⟩ := hZ.1 (RX, 74, "no such cell") (by decide +kernel)
      exact vx_throwS hx hb hlt (own := RX) (cls := "java/lang/IndexOutOfBoundsException") (names := ["java/lang/RuntimeException", "java/lang/Exception"]) hown (by decide +kernel) (by decide +kernel) (hts _ wl_X_48) (hts _ win_IndexOutOfBoundsException) hsa (vx_hat (L := vx_atS RX 52 "java/lang/IndexOutOfBoundsException" ["java/lang/RuntimeException", "java/lang/Exception"]) (fun w hw => hts w (wx_IndexOutOfBoundsException w hw)) wb_IndexOutOfBoundsException (fun w hw => va_Nw.use (zBad_on w hw) (hZ.2.1 w hw))) wg_IndexOutOfBoundsException hZ.2.2.1 hZ.2.2.2 hS (hl.1.trans hml.symm) d_X_checkCell_12 d_X_checkCell_15 d_X_checkCell_16 d_X_checkCell_18 d_X_checkCell_21 (fun x9 h9 => (htab x9 h9).elim) (by decide) (by decide) (by decide) (by decide) hlocks (fun t9 hal hz9 hk9 => ⟨(), fun ⟨k, k1, k2⟩ => c2 (by rw [k2]; exact nI_lt k1 (by omega)), ⟨rfl, va_P.kept hP (fun k9 q9 h9 => hk9 q9.1 (vx_lt hP h9)), va_K.moved hal hK, hD⟩, ⟨Nat.le_trans hS.1 hz9, fun q9 a1 a2 => (hk9 q9 (Nat.lt_of_lt_of_le a1 hS.1)).trans (hS.2.1 q9 a1 a2)⟩⟩) hS.2.2 (by decide) (by decide)
set_option maxHeartbeats 4000000 in
set_option maxRecDepth 100000 in
/-- checkCard(x) -/
theorem c_checkCard (l : Launch) (hlt : l.stackTraces = false) (dC : Nat → ClassId) (dI : Nat → Nat → Nat) (h0 h1 h2 : Nat) (cA cB : ClassId) (sz : Nat) (M S : Nat → Int32) (nn : Nat) (pv : Int32) (x : Int32) (g0 : nn ≤ 16384) : vx_Met l y_X_checkCard ws_X_checkCard ({ frames := 6, cells := 1, slots := 6, locals := 90 }) (va_Pc [.ref h0, .int x] (cx_P (dC, dI) vwCl (wX h0 h1 h2 cA cB M S (nI nn) pv) (tX cA cB) sz)) (va_Qv (S := Unit) (fun _ : Unit => ∃ k, k < (nn + 31) / 32 ∧ x = nI k) (fun u t => cc_B (dC, dI) vwCl (tX cA cB) (va_A (wX h0 h1 h2 cA cB M S (nI nn) pv) sz) ((fun _ : Unit => (wX h0 h1 h2 cA cB M S (nI nn) pv)) u) t) (va_A (wX h0 h1 h2 cA cB M S (nI nn) pv) sz)) (cx_X (dC, dI) vwCl (tX cA cB) (wX h0 h1 h2 cA cB M S (nI nn) pv) (va_A (wX h0 h1 h2 cA cB M S (nI nn) pv) sz) "java/lang/IndexOutOfBoundsException" (¬ ∃ k, k < (nn + 31) / 32 ∧ x = nI k)) 1 6 (va_A (wX h0 h1 h2 cA cB M S (nI nn) pv) sz) := by
  refine vx_ofW (cc := c_X_checkCard) (maxL := 2) (ret := none) (by decide) rfl ?_
  intro p e s m args below meth c s₁ B hml htab hv
  obtain ⟨rfl, ⟨hsz, hP, hK, hD0⟩, hZ⟩ := hv
  have hx := B.exec
  have hb := B.bytes
  have hr := B.returns
  have hts : ∀ w ∈ zAll, w.before _ s = true := fun w h => atoms_spec (ws := ws_X_checkCard) B.pre w (List.mem_cons_of_mem _ h)
  have hown : s.vm.findClass RX = some m.cls := findClass_of_methodNamed B.named
  have hlocks := B.notSynchronized
  subst hsz
  have hD := hD0.self (sz := s.heap.size)
  generalize hAe : va_A (wX h0 h1 h2 cA cB M S (nI nn) pv) s.heap.size = A at hD hZ ⊢
  have hA : ∀ q : Nat, s.heap.size ≤ q → A q := fun q h => by rw [← hAe]; exact Or.inr h
  have hS : va_S A s.heap s.heap [] := va_S.rf
  replace hP : va_P (dC, dI) vwCl [(h0, .inr (0, [.ref h1, .ref h2, .int (nI nn), .int pv])), (h1, .inl (cA, 512, .inl M)), (h2, .inl (cB, 512, .inl S))] s.heap := hP
  replace hD : va_D A [(h0, .inr (0, [.ref h1, .ref h2, .int (nI nn), .int pv])), (h1, .inl (cA, 512, .inl M)), (h2, .inl (cB, 512, .inl S))] := hD
  have hl := lv_entry ([.ref h0, .int x]) (n := 2) (Nat.le_of_ble_eq_true rfl)
  rw [lg_entry_eq]
  generalize (lg_sl ([.ref h0, .int x]) ++ List.replicate (2 - (lg_sl ([.ref h0, .int x])).length) Slot.unset).toArray = ls at hl ⊢
  replace hl : lv_has ls 2 [(0, .ref h0), (1, .int x)] := hl
  refine lv_iload_n hx hb d_X_checkCard_0 rfl (lv_at hl 1 rfl) ?_
  refine lv_if_lt (tgt := 12) hx hb d_X_checkCard_1 (by decide) (fun c1 => ?_) (fun c1 => ?_)
  · obtain ⟨sa, hsa⟩ := hZ.1 (RX, 76, "no such card") (by decide +kernel)
    exact vx_throwS hx hb hlt (own := RX) (cls := "java/lang/IndexOutOfBoundsException") (names := ["java/lang/RuntimeException", "java/lang/Exception"]) hown (by decide +kernel) (by decide +kernel) (hts _ wl_X_48) (hts _ win_IndexOutOfBoundsException) hsa (vx_hat (L := vx_atS RX 52 "java/lang/IndexOutOfBoundsException" ["java/lang/RuntimeException", "java/lang/Exception"]) (fun w hw => hts w (wx_IndexOutOfBoundsException w hw)) wb_IndexOutOfBoundsException (fun w hw => va_Nw.use (zBad_on w hw) (hZ.2.1 w hw))) wg_IndexOutOfBoundsException hZ.2.2.1 hZ.2.2.2 hS (hl.1.trans hml.symm) d_X_checkCard_12 d_X_checkCard_15 d_X_checkCard_16 d_X_checkCard_18 d_X_checkCard_21 (fun x9 h9 => (htab x9 h9).elim) (by decide) (by decide) (by decide) (by decide) hlocks (fun t9 hal hz9 hk9 => ⟨(), fun ⟨k, k1, k2⟩ => nI_pos (n := k) (by omega) (by rw [← k2]; exact c1), ⟨rfl, va_P.kept hP (fun k9 q9 h9 => hk9 q9.1 (vx_lt hP h9)), va_K.moved hal hK, hD⟩, ⟨Nat.le_trans hS.1 hz9, fun q9 a1 a2 => (hk9 q9 (Nat.lt_of_lt_of_le a1 hS.1)).trans (hS.2.1 q9 a1 a2)⟩⟩) hS.2.2 (by decide) (by decide)
  · refine lv_iload_n hx hb d_X_checkCard_4 rfl (lv_at hl 1 rfl) ?_
    refine lv_aload_n hx hb d_X_checkCard_5 rfl (lv_at hl 0 rfl) ?_
    refine cc_Vi (wc := [(h0, .inr (0, [.ref h1, .ref h2, .int (nI nn), .int pv])), (h1, .inl (cA, 512, .inl M)), (h2, .inl (cB, 512, .inl S))]) (wr := []) (tys' := [(cA, .int), (cB, .int)]) ⟨hx, hb, hml, hown, hts⟩ hP hD hK hS hA [0, 1, 2] [] [0, 1] rfl rfl rfl (by decide) (by decide) (by decide) rfl (c_cardCount l dC dI h0 h1 h2 cA cB _ M S nn pv g0) (cwV 0 hts g_X_64 rfl rfl rfl (by decide +kernel) ⟨Nat.le_of_ble_eq_true rfl, Nat.le_of_ble_eq_true rfl⟩) 0 0 rfl rfl rfl rfl hl.1 rfl (Nat.le_of_ble_eq_true rfl) d_X_checkCard_6 ⟨Nat.le_of_ble_eq_true rfl, Nat.le_of_ble_eq_true rfl⟩ (fun r_9 u H locs hw hP hD hS => ?_)
    replace hP : va_P (dC, dI) vwCl [(h0, .inr (0, [.ref h1, .ref h2, .int (nI nn), .int pv])), (h1, .inl (cA, 512, .inl M)), (h2, .inl (cB, 512, .inl S))] H := hP
    replace hD : va_D A [(h0, .inr (0, [.ref h1, .ref h2, .int (nI nn), .int pv])), (h1, .inl (cA, 512, .inl M)), (h2, .inl (cB, 512, .inl S))] := hD
    subst hw
    refine lv_icmp_lt (tgt := 22) hx hb d_X_checkCard_9 (by decide) (fun c2 => ?_) (fun c2 => ?_)
    · refine W.widen (k := 1) (n := 6) (by decide) (by decide) ?_
      refine vx_ret ?_
      exact W.vret hx hb hr (fun t9 ht9 hW9 => ⟨⟨(), rfl, z_inof c1 c2 (by omega), by rw [ht9]; exact hP, va_K.moved hW9.alike hK, hD⟩, hS.F ht9⟩) hS.2.2 d_X_checkCard_22
    · obtain ⟨sa, hsa⟩ := hZ.1 (RX, 76, "no such card") (by decide +kernel)
      exact vx_throwS hx hb hlt (own := RX) (cls := "java/lang/IndexOutOfBoundsException") (names := ["java/lang/RuntimeException", "java/lang/Exception"]) hown (by decide +kernel) (by decide +kernel) (hts _ wl_X_48) (hts _ win_IndexOutOfBoundsException) hsa (vx_hat (L := vx_atS RX 52 "java/lang/IndexOutOfBoundsException" ["java/lang/RuntimeException", "java/lang/Exception"]) (fun w hw => hts w (wx_IndexOutOfBoundsException w hw)) wb_IndexOutOfBoundsException (fun w hw => va_Nw.use (zBad_on w hw) (hZ.2.1 w hw))) wg_IndexOutOfBoundsException hZ.2.2.1 hZ.2.2.2 hS (hl.1.trans hml.symm) d_X_checkCard_12 d_X_checkCard_15 d_X_checkCard_16 d_X_checkCard_18 d_X_checkCard_21 (fun x9 h9 => (htab x9 h9).elim) (by decide) (by decide) (by decide) (by decide) hlocks (fun t9 hal hz9 hk9 => ⟨(), fun ⟨k, k1, k2⟩ => c2 (by rw [k2]; exact nI_lt k1 (by omega)), ⟨rfl, va_P.kept hP (fun k9 q9 h9 => hk9 q9.1 (vx_lt hP h9)), va_K.moved hal hK, hD⟩, ⟨Nat.le_trans hS.1 hz9, fun q9 a1 a2 => (hk9 q9 (Nat.lt_of_lt_of_le a1 hS.1)).trans (hS.2.1 q9 a1 a2)⟩⟩) hS.2.2 (by decide) (by decide)
end
section
set_option maxHeartbeats 4000000 in
set_option maxRecDepth 100000 in
/-- begin(x) -/
theorem c_begin (l : Launch) (hlt : l.stackTraces = false) (dC : Nat → ClassId) (dI : Nat → Nat → Nat) (h0 h1 h2 : Nat) (cA cB : ClassId) (sz : Nat) (M S : Nat → Int32) (nn pp : Nat) (g0 : zCI nn pp M S) (x : Int32) : vx_Met l y_X_begin ws_X_begin ({ frames := 7, cells := 1, slots := 6, locals := 111 }) (va_Pc [.ref h0, .int x] (cx_P (dC, dI) vwCl (wX h0 h1 h2 cA cB M S (nI nn) (nI pp)) (tX cA cB) sz)) (va_Qi (S := Unit) (fun (r : Int32) (u : Unit) => ∃ k, k < nn ∧ x = nI k ∧ r = nI (zb (zm M) k)) (fun u t => cc_B (dC, dI) vwCl (tX cA cB) (va_A (wX h0 h1 h2 cA cB M S (nI nn) (nI pp)) sz) ((fun _ : Unit => (wX h0 h1 h2 cA cB M S (nI nn) (nI pp))) u) t) (va_A (wX h0 h1 h2 cA cB M S (nI nn) (nI pp)) sz)) (cx_X (dC, dI) vwCl (tX cA cB) (wX h0 h1 h2 cA cB M S (nI nn) (nI pp)) (va_A (wX h0 h1 h2 cA cB M S (nI nn) (nI pp)) sz) "java/lang/IndexOutOfBoundsException" (¬ ∃ k, k < nn ∧ x = nI k)) 1 6 (va_A (wX h0 h1 h2 cA cB M S (nI nn) (nI pp)) sz) := by
  refine vx_ofW (cc := c_X_begin) (maxL := 2) (ret := (some .int)) (by decide) rfl ?_
  intro p e s m args below meth c s₁ B hml htab hv
  obtain ⟨rfl, ⟨hsz, hP, hK, hD0⟩, hZ⟩ := hv
  have hx := B.exec
  have hb := B.bytes
  have hr := B.returns
  have hts : ∀ w ∈ zAll, w.before _ s = true := fun w h => atoms_spec (ws := ws_X_begin) B.pre w (List.mem_cons_of_mem _ h)
  have hown : s.vm.findClass RX = some m.cls := findClass_of_methodNamed B.named
  have hlocks := B.notSynchronized
  subst hsz
  have hD := hD0.self (sz := s.heap.size)
  generalize hAe : va_A (wX h0 h1 h2 cA cB M S (nI nn) (nI pp)) s.heap.size = A at hD hZ ⊢
  have hA : ∀ q : Nat, s.heap.size ≤ q → A q := fun q h => by rw [← hAe]; exact Or.inr h
  have hS : va_S A s.heap s.heap [] := va_S.rf
  replace hP : va_P (dC, dI) vwCl [(h0, .inr (0, [.ref h1, .ref h2, .int (nI nn), .int (nI pp)])), (h1, .inl (cA, 512, .inl M)), (h2, .inl (cB, 512, .inl S))] s.heap := hP
  replace hD : va_D A [(h0, .inr (0, [.ref h1, .ref h2, .int (nI nn), .int (nI pp)])), (h1, .inl (cA, 512, .inl M)), (h2, .inl (cB, 512, .inl S))] := hD
  have hl := lv_entry ([.ref h0, .int x]) (n := 2) (Nat.le_of_ble_eq_true rfl)
  rw [lg_entry_eq]
  generalize (lg_sl ([.ref h0, .int x]) ++ List.replicate (2 - (lg_sl ([.ref h0, .int x])).length) Slot.unset).toArray = ls at hl ⊢
  replace hl : lv_has ls 2 [(0, .ref h0), (1, .int x)] := hl
  have gi := g0
  obtain ⟨i1, i2, i3, i4, i5, i6⟩ := gi
  have hpp : pp < 16385 := by (rw [i5]; have := zc_le (zm M) nn; omega)
  refine lv_aload_n hx hb d_X_begin_0 rfl (lv_at hl 0 rfl) ?_
  refine lv_iload_n hx hb d_X_begin_1 rfl (lv_at hl 1 rfl) ?_
  refine cx_Vv (wc := [(h0, .inr (0, [.ref h1, .ref h2, .int (nI nn), .int (nI pp)])), (h1, .inl (cA, 512, .inl M)), (h2, .inl (cB, 512, .inl S))]) (wr := []) (tys' := [(cA, .int), (cB, .int)]) ⟨hx, hb, hml, hown, hts⟩ hP hD hK hS hA hZ [0, 1, 2] [] [0, 1] rfl rfl rfl (by decide) (by decide) (by decide) rfl (c_checkCell l hlt dC dI h0 h1 h2 cA cB _ M S nn (nI pp) x i2) (cwV 1 hts g_X_31 rfl rfl rfl (by decide +kernel) ⟨Nat.le_of_ble_eq_true rfl, Nat.le_of_ble_eq_true rfl⟩) 0 0 rfl rfl rfl rfl hl.1 rfl (Nat.le_of_ble_eq_true rfl) d_X_begin_2 ⟨Nat.le_of_ble_eq_true rfl, Nat.le_of_ble_eq_true rfl⟩ (fun ce q9 H locs hbad hP hD hS y1 y2 y3 => vx_out (fun x9 h9 => (htab x9 h9).elim) hlocks y1 y2 y3 (fun t9 ht9 hal => ⟨(), hbad, ⟨rfl, by rw [ht9]; exact hP, va_K.moved hal hK, hD⟩, hS.F ht9⟩) hS.2.2 (by decide) (by decide)) (fun u H locs hw hP hD hS => ?_)
  replace hP : va_P (dC, dI) vwCl [(h0, .inr (0, [.ref h1, .ref h2, .int (nI nn), .int (nI pp)])), (h1, .inl (cA, 512, .inl M)), (h2, .inl (cB, 512, .inl S))] H := hP
  replace hD : va_D A [(h0, .inr (0, [.ref h1, .ref h2, .int (nI nn), .int (nI pp)])), (h1, .inl (cA, 512, .inl M)), (h2, .inl (cB, 512, .inl S))] := hD
  obtain ⟨k, k1, rfl⟩ := hw
  refine lv_aload_n hx hb d_X_begin_5 rfl (lv_at hl 0 rfl) ?_
  refine lv_iload_n hx hb d_X_begin_6 rfl (lv_at hl 1 rfl) ?_
  refine cc_Vi (wc := [(h0, .inr (0, [.ref h1, .ref h2, .int (nI nn), .int (nI pp)])), (h1, .inl (cA, 512, .inl M)), (h2, .inl (cB, 512, .inl S))]) (wr := []) (tys' := [(cA, .int), (cB, .int)]) ⟨hx, hb, hml, hown, hts⟩ hP hD hK hS hA [0, 1, 2] [] [0, 1] rfl rfl rfl (by decide) (by decide) (by decide) rfl (c_beginOf l dC dI h0 h1 h2 cA cB _ M S nn (nI pp) k (by omega) i3 (i6 _ (by omega))) (cwV 1 hts g_X_34 rfl rfl rfl (by decide +kernel) ⟨Nat.le_of_ble_eq_true rfl, Nat.le_of_ble_eq_true rfl⟩) 0 0 rfl rfl rfl rfl hl.1 rfl (Nat.le_of_ble_eq_true rfl) d_X_begin_7 ⟨Nat.le_of_ble_eq_true rfl, Nat.le_of_ble_eq_true rfl⟩ (fun r_9 u H locs hw hP hD hS => ?_)
  replace hP : va_P (dC, dI) vwCl [(h0, .inr (0, [.ref h1, .ref h2, .int (nI nn), .int (nI pp)])), (h1, .inl (cA, 512, .inl M)), (h2, .inl (cB, 512, .inl S))] H := hP
  replace hD : va_D A [(h0, .inr (0, [.ref h1, .ref h2, .int (nI nn), .int (nI pp)])), (h1, .inl (cA, 512, .inl M)), (h2, .inl (cB, 512, .inl S))] := hD
  subst hw
  have zl_k := zb_le (zm M) k
  refine W.widen (k := 1) (n := 6) (by decide) (by decide) ?_
  refine vx_ret ?_
  exact W.iret (v := nI (zb (zm M) k)) hx hb hr (fun t9 ht9 hW9 => ⟨⟨nI (zb (zm M) k), (), rfl, ⟨k, k1, rfl, rfl⟩, by rw [ht9]; exact hP, va_K.moved hW9.alike hK, hD⟩, hS.F ht9⟩) hS.2.2 d_X_begin_10
set_option maxHeartbeats 4000000 in
set_option maxRecDepth 100000 in
/-- size(x) -/
theorem c_size (l : Launch) (hlt : l.stackTraces = false) (dC : Nat → ClassId) (dI : Nat → Nat → Nat) (h0 h1 h2 : Nat) (cA cB : ClassId) (sz : Nat) (M S : Nat → Int32) (nn pp : Nat) (g0 : zCI nn pp M S) (x : Int32) : vx_Met l y_X_size ws_X_size ({ frames := 7, cells := 1, slots := 6, locals := 111 }) (va_Pc [.ref h0, .int x] (cx_P (dC, dI) vwCl (wX h0 h1 h2 cA cB M S (nI nn) (nI pp)) (tX cA cB) sz)) (va_Qi (S := Unit) (fun (r : Int32) (u : Unit) => ∃ k, k < nn ∧ x = nI k ∧ r = nI (zn (zm M) nn (k + 1) - zb (zm M) k)) (fun u t => cc_B (dC, dI) vwCl (tX cA cB) (va_A (wX h0 h1 h2 cA cB M S (nI nn) (nI pp)) sz) ((fun _ : Unit => (wX h0 h1 h2 cA cB M S (nI nn) (nI pp))) u) t) (va_A (wX h0 h1 h2 cA cB M S (nI nn) (nI pp)) sz)) (cx_X (dC, dI) vwCl (tX cA cB) (wX h0 h1 h2 cA cB M S (nI nn) (nI pp)) (va_A (wX h0 h1 h2 cA cB M S (nI nn) (nI pp)) sz) "java/lang/IndexOutOfBoundsException" (¬ ∃ k, k < nn ∧ x = nI k)) 1 6 (va_A (wX h0 h1 h2 cA cB M S (nI nn) (nI pp)) sz) := by
  refine vx_ofW (cc := c_X_size) (maxL := 2) (ret := (some .int)) (by decide) rfl ?_
  intro p e s m args below meth c s₁ B hml htab hv
  obtain ⟨rfl, ⟨hsz, hP, hK, hD0⟩, hZ⟩ := hv
  have hx := B.exec
  have hb := B.bytes
  have hr := B.returns
  have hts : ∀ w ∈ zAll, w.before _ s = true := fun w h => atoms_spec (ws := ws_X_size) B.pre w (List.mem_cons_of_mem _ h)
  have hown : s.vm.findClass RX = some m.cls := findClass_of_methodNamed B.named
  have hlocks := B.notSynchronized
  subst hsz
  have hD := hD0.self (sz := s.heap.size)
  generalize hAe : va_A (wX h0 h1 h2 cA cB M S (nI nn) (nI pp)) s.heap.size = A at hD hZ ⊢
  have hA : ∀ q : Nat, s.heap.size ≤ q → A q := fun q h => by rw [← hAe]; exact Or.inr h
  have hS : va_S A s.heap s.heap [] := va_S.rf
  replace hP : va_P (dC, dI) vwCl [(h0, .inr (0, [.ref h1, .ref h2, .int (nI nn), .int (nI pp)])), (h1, .inl (cA, 512, .inl M)), (h2, .inl (cB, 512, .inl S))] s.heap := hP
  replace hD : va_D A [(h0, .inr (0, [.ref h1, .ref h2, .int (nI nn), .int (nI pp)])), (h1, .inl (cA, 512, .inl M)), (h2, .inl (cB, 512, .inl S))] := hD
  have hl := lv_entry ([.ref h0, .int x]) (n := 2) (Nat.le_of_ble_eq_true rfl)
  rw [lg_entry_eq]
  generalize (lg_sl ([.ref h0, .int x]) ++ List.replicate (2 - (lg_sl ([.ref h0, .int x])).length) Slot.unset).toArray = ls at hl ⊢
  replace hl : lv_has ls 2 [(0, .ref h0), (1, .int x)] := hl
  have gi := g0
  obtain ⟨i1, i2, i3, i4, i5, i6⟩ := gi
  have hpp : pp < 16385 := by (rw [i5]; have := zc_le (zm M) nn; omega)
  refine lv_aload_n hx hb d_X_size_0 rfl (lv_at hl 0 rfl) ?_
  refine lv_iload_n hx hb d_X_size_1 rfl (lv_at hl 1 rfl) ?_
  refine cx_Vv (wc := [(h0, .inr (0, [.ref h1, .ref h2, .int (nI nn), .int (nI pp)])), (h1, .inl (cA, 512, .inl M)), (h2, .inl (cB, 512, .inl S))]) (wr := []) (tys' := [(cA, .int), (cB, .int)]) ⟨hx, hb, hml, hown, hts⟩ hP hD hK hS hA hZ [0, 1, 2] [] [0, 1] rfl rfl rfl (by decide) (by decide) (by decide) rfl (c_checkCell l hlt dC dI h0 h1 h2 cA cB _ M S nn (nI pp) x i2) (cwV 1 hts g_X_31 rfl rfl rfl (by decide +kernel) ⟨Nat.le_of_ble_eq_true rfl, Nat.le_of_ble_eq_true rfl⟩) 0 0 rfl rfl rfl rfl hl.1 rfl (Nat.le_of_ble_eq_true rfl) d_X_size_2 ⟨Nat.le_of_ble_eq_true rfl, Nat.le_of_ble_eq_true rfl⟩ (fun ce q9 H locs hbad hP hD hS y1 y2 y3 => vx_out (fun x9 h9 => (htab x9 h9).elim) hlocks y1 y2 y3 (fun t9 ht9 hal => ⟨(), hbad, ⟨rfl, by rw [ht9]; exact hP, va_K.moved hal hK, hD⟩, hS.F ht9⟩) hS.2.2 (by decide) (by decide)) (fun u H locs hw hP hD hS => ?_)
  replace hP : va_P (dC, dI) vwCl [(h0, .inr (0, [.ref h1, .ref h2, .int (nI nn), .int (nI pp)])), (h1, .inl (cA, 512, .inl M)), (h2, .inl (cB, 512, .inl S))] H := hP
  replace hD : va_D A [(h0, .inr (0, [.ref h1, .ref h2, .int (nI nn), .int (nI pp)])), (h1, .inl (cA, 512, .inl M)), (h2, .inl (cB, 512, .inl S))] := hD
  obtain ⟨k, k1, rfl⟩ := hw
  refine lv_aload_n hx hb d_X_size_5 rfl (lv_at hl 0 rfl) ?_
  refine lv_iload_n hx hb d_X_size_6 rfl (lv_at hl 1 rfl) ?_
  refine cc_Vi (wc := [(h0, .inr (0, [.ref h1, .ref h2, .int (nI nn), .int (nI pp)])), (h1, .inl (cA, 512, .inl M)), (h2, .inl (cB, 512, .inl S))]) (wr := []) (tys' := [(cA, .int), (cB, .int)]) ⟨hx, hb, hml, hown, hts⟩ hP hD hK hS hA [0, 1, 2] [] [0, 1] rfl rfl rfl (by decide) (by decide) (by decide) rfl (c_endOf l dC dI h0 h1 h2 cA cB _ M S nn (nI pp) k k1 i2 i4) (cwV 1 hts g_X_41 rfl rfl rfl (by decide +kernel) ⟨Nat.le_of_ble_eq_true rfl, Nat.le_of_ble_eq_true rfl⟩) 0 0 rfl rfl rfl rfl hl.1 rfl (Nat.le_of_ble_eq_true rfl) d_X_size_7 ⟨Nat.le_of_ble_eq_true rfl, Nat.le_of_ble_eq_true rfl⟩ (fun r_9 u H locs hw hP hD hS => ?_)
  replace hP : va_P (dC, dI) vwCl [(h0, .inr (0, [.ref h1, .ref h2, .int (nI nn), .int (nI pp)])), (h1, .inl (cA, 512, .inl M)), (h2, .inl (cB, 512, .inl S))] H := hP
  replace hD : va_D A [(h0, .inr (0, [.ref h1, .ref h2, .int (nI nn), .int (nI pp)])), (h1, .inl (cA, 512, .inl M)), (h2, .inl (cB, 512, .inl S))] := hD
  subst hw
  have zg_k := zn_ge (zm M) nn (k + 1)
  have zh_k : zn (zm M) nn (k + 1) ≤ nn := zn_le (by omega)
  refine lv_aload_n hx hb d_X_size_10 rfl (lv_at hl 0 rfl) ?_
  refine lv_iload_n hx hb d_X_size_11 rfl (lv_at hl 1 rfl) ?_
  refine cc_Vi (wc := [(h0, .inr (0, [.ref h1, .ref h2, .int (nI nn), .int (nI pp)])), (h1, .inl (cA, 512, .inl M)), (h2, .inl (cB, 512, .inl S))]) (wr := []) (tys' := [(cA, .int), (cB, .int)]) ⟨hx, hb, hml, hown, hts⟩ hP hD hK hS hA [0, 1, 2] [] [0, 1] rfl rfl rfl (by decide) (by decide) (by decide) rfl (c_beginOf l dC dI h0 h1 h2 cA cB _ M S nn (nI pp) k (by omega) i3 (i6 _ (by omega))) (cwV 1 hts g_X_34 rfl rfl rfl (by decide +kernel) ⟨Nat.le_of_ble_eq_true rfl, Nat.le_of_ble_eq_true rfl⟩) 0 0 rfl rfl rfl rfl hl.1 rfl (Nat.le_of_ble_eq_true rfl) d_X_size_12 ⟨Nat.le_of_ble_eq_true rfl, Nat.le_of_ble_eq_true rfl⟩ (fun r_9 u H locs hw hP hD hS => ?_)
  replace hP : va_P (dC, dI) vwCl [(h0, .inr (0, [.ref h1, .ref h2, .int (nI nn), .int (nI pp)])), (h1, .inl (cA, 512, .inl M)), (h2, .inl (cB, 512, .inl S))] H := hP
  replace hD : va_D A [(h0, .inr (0, [.ref h1, .ref h2, .int (nI nn), .int (nI pp)])), (h1, .inl (cA, 512, .inl M)), (h2, .inl (cB, 512, .inl S))] := hD
  subst hw
  have zl_k := zb_le (zm M) k
  refine lv_isub hx hb d_X_size_15 ?_
  refine lv_topi (nm_r (show _ = nI ((zn (zm M) nn (k + 1)) - (zb (zm M) k)) from pk_sub (by omega)) ?_)
  refine W.widen (k := 1) (n := 6) (by decide) (by decide) ?_
  refine vx_ret ?_
  exact W.iret (v := nI ((zn (zm M) nn (k + 1)) - (zb (zm M) k))) hx hb hr (fun t9 ht9 hW9 => ⟨⟨nI ((zn (zm M) nn (k + 1)) - (zb (zm M) k)), (), rfl, ⟨k, k1, rfl, rfl⟩, by rw [ht9]; exact hP, va_K.moved hW9.alike hK, hD⟩, hS.F ht9⟩) hS.2.2 d_X_size_16
set_option maxHeartbeats 4000000 in
set_option maxRecDepth 100000 in
/-- start(x) -/
theorem c_start (l : Launch) (hlt : l.stackTraces = false) (dC : Nat → ClassId) (dI : Nat → Nat → Nat) (h0 h1 h2 : Nat) (cA cB : ClassId) (sz : Nat) (M S : Nat → Int32) (nn pp : Nat) (g0 : zCI nn pp M S) (x : Int32) : vx_Met l y_X_start ws_X_start ({ frames := 7, cells := 1, slots := 6, locals := 111 }) (va_Pc [.ref h0, .int x] (cx_P (dC, dI) vwCl (wX h0 h1 h2 cA cB M S (nI nn) (nI pp)) (tX cA cB) sz)) (va_Qi (S := Unit) (fun (r : Int32) (u : Unit) => ∃ k, k < (nn + 31) / 32 ∧ x = nI k ∧ r = nI (zb (zm M) (32 * k))) (fun u t => cc_B (dC, dI) vwCl (tX cA cB) (va_A (wX h0 h1 h2 cA cB M S (nI nn) (nI pp)) sz) ((fun _ : Unit => (wX h0 h1 h2 cA cB M S (nI nn) (nI pp))) u) t) (va_A (wX h0 h1 h2 cA cB M S (nI nn) (nI pp)) sz)) (cx_X (dC, dI) vwCl (tX cA cB) (wX h0 h1 h2 cA cB M S (nI nn) (nI pp)) (va_A (wX h0 h1 h2 cA cB M S (nI nn) (nI pp)) sz) "java/lang/IndexOutOfBoundsException" (¬ ∃ k, k < (nn + 31) / 32 ∧ x = nI k)) 1 6 (va_A (wX h0 h1 h2 cA cB M S (nI nn) (nI pp)) sz) := by
  refine vx_ofW (cc := c_X_start) (maxL := 2) (ret := (some .int)) (by decide) rfl ?_
  intro p e s m args below meth c s₁ B hml htab hv
  obtain ⟨rfl, ⟨hsz, hP, hK, hD0⟩, hZ⟩ := hv
  have hx := B.exec
  have hb := B.bytes
  have hr := B.returns
  have hts : ∀ w ∈ zAll, w.before _ s = true := fun w h => atoms_spec (ws := ws_X_start) B.pre w (List.mem_cons_of_mem _ h)
  have hown : s.vm.findClass RX = some m.cls := findClass_of_methodNamed B.named
  have hlocks := B.notSynchronized
  subst hsz
  have hD := hD0.self (sz := s.heap.size)
  generalize hAe : va_A (wX h0 h1 h2 cA cB M S (nI nn) (nI pp)) s.heap.size = A at hD hZ ⊢
  have hA : ∀ q : Nat, s.heap.size ≤ q → A q := fun q h => by rw [← hAe]; exact Or.inr h
  have hS : va_S A s.heap s.heap [] := va_S.rf
  replace hP : va_P (dC, dI) vwCl [(h0, .inr (0, [.ref h1, .ref h2, .int (nI nn), .int (nI pp)])), (h1, .inl (cA, 512, .inl M)), (h2, .inl (cB, 512, .inl S))] s.heap := hP
  replace hD : va_D A [(h0, .inr (0, [.ref h1, .ref h2, .int (nI nn), .int (nI pp)])), (h1, .inl (cA, 512, .inl M)), (h2, .inl (cB, 512, .inl S))] := hD
  have hl := lv_entry ([.ref h0, .int x]) (n := 2) (Nat.le_of_ble_eq_true rfl)
  rw [lg_entry_eq]
  generalize (lg_sl ([.ref h0, .int x]) ++ List.replicate (2 - (lg_sl ([.ref h0, .int x])).length) Slot.unset).toArray = ls at hl ⊢
  replace hl : lv_has ls 2 [(0, .ref h0), (1, .int x)] := hl
  have gi := g0
  obtain ⟨i1, i2, i3, i4, i5, i6⟩ := gi
  have hpp : pp < 16385 := by (rw [i5]; have := zc_le (zm M) nn; omega)
  refine lv_aload_n hx hb d_X_start_0 rfl (lv_at hl 0 rfl) ?_
  refine lv_iload_n hx hb d_X_start_1 rfl (lv_at hl 1 rfl) ?_
  refine cx_Vv (wc := [(h0, .inr (0, [.ref h1, .ref h2, .int (nI nn), .int (nI pp)])), (h1, .inl (cA, 512, .inl M)), (h2, .inl (cB, 512, .inl S))]) (wr := []) (tys' := [(cA, .int), (cB, .int)]) ⟨hx, hb, hml, hown, hts⟩ hP hD hK hS hA hZ [0, 1, 2] [] [0, 1] rfl rfl rfl (by decide) (by decide) (by decide) rfl (c_checkCard l hlt dC dI h0 h1 h2 cA cB _ M S nn (nI pp) x i2) (cwV 1 hts g_X_56 rfl rfl rfl (by decide +kernel) ⟨Nat.le_of_ble_eq_true rfl, Nat.le_of_ble_eq_true rfl⟩) 0 0 rfl rfl rfl rfl hl.1 rfl (Nat.le_of_ble_eq_true rfl) d_X_start_2 ⟨Nat.le_of_ble_eq_true rfl, Nat.le_of_ble_eq_true rfl⟩ (fun ce q9 H locs hbad hP hD hS y1 y2 y3 => vx_out (fun x9 h9 => (htab x9 h9).elim) hlocks y1 y2 y3 (fun t9 ht9 hal => ⟨(), hbad, ⟨rfl, by rw [ht9]; exact hP, va_K.moved hal hK, hD⟩, hS.F ht9⟩) hS.2.2 (by decide) (by decide)) (fun u H locs hw hP hD hS => ?_)
  replace hP : va_P (dC, dI) vwCl [(h0, .inr (0, [.ref h1, .ref h2, .int (nI nn), .int (nI pp)])), (h1, .inl (cA, 512, .inl M)), (h2, .inl (cB, 512, .inl S))] H := hP
  replace hD : va_D A [(h0, .inr (0, [.ref h1, .ref h2, .int (nI nn), .int (nI pp)])), (h1, .inl (cA, 512, .inl M)), (h2, .inl (cB, 512, .inl S))] := hD
  obtain ⟨k, k1, rfl⟩ := hw
  refine lv_aload_n hx hb d_X_start_5 rfl (lv_at hl 0 rfl) ?_
  refine va_get (D := (dC, dI)) (ci := 0) (v := .ref h2) (C := RX) (T := TX) (N := 4) hx hb hts inX hown hK hP 0 rfl rfl 1 (by decide) (hts _ wl_X_13) (fun _ h9 => h9) rfl d_X_start_6 ?_
  refine lv_iload_n hx hb d_X_start_9 rfl (lv_at hl 1 rfl) ?_
  refine va_iald hx hb hK hP 2 1 rfl rfl (vp_in_nI (by omega) (by decide)) d_X_start_10 ?_
  refine lv_topi (nm_r (show _ = S k from by rw [nI_clamp (by omega)]) ?_)
  refine W.widen (k := 1) (n := 6) (by decide) (by decide) ?_
  refine vx_ret ?_
  exact W.iret (v := S k) hx hb hr (fun t9 ht9 hW9 => ⟨⟨S k, (), rfl, ⟨k, k1, rfl, i6 k (by omega)⟩, by rw [ht9]; exact hP, va_K.moved hW9.alike hK, hD⟩, hS.F ht9⟩) hS.2.2 d_X_start_11
set_option maxHeartbeats 4000000 in
set_option maxRecDepth 100000 in
/-- begins(x) -/
theorem c_begins (l : Launch) (hlt : l.stackTraces = false) (dC : Nat → ClassId) (dI : Nat → Nat → Nat) (h0 h1 h2 : Nat) (cA cB : ClassId) (sz : Nat) (M S : Nat → Int32) (nn pp : Nat) (g0 : zCI nn pp M S) (x : Int32) : vx_Met l y_X_begins ws_X_begins ({ frames := 7, cells := 1, slots := 6, locals := 111 }) (va_Pc [.ref h0, .int x] (cx_P (dC, dI) vwCl (wX h0 h1 h2 cA cB M S (nI nn) (nI pp)) (tX cA cB) sz)) (va_Qi (S := Unit) (fun (r : Int32) (u : Unit) => ∃ k, k < (nn + 31) / 32 ∧ x = nI k ∧ r = nI (zc (bt (M k)) 32)) (fun u t => cc_B (dC, dI) vwCl (tX cA cB) (va_A (wX h0 h1 h2 cA cB M S (nI nn) (nI pp)) sz) ((fun _ : Unit => (wX h0 h1 h2 cA cB M S (nI nn) (nI pp))) u) t) (va_A (wX h0 h1 h2 cA cB M S (nI nn) (nI pp)) sz)) (cx_X (dC, dI) vwCl (tX cA cB) (wX h0 h1 h2 cA cB M S (nI nn) (nI pp)) (va_A (wX h0 h1 h2 cA cB M S (nI nn) (nI pp)) sz) "java/lang/IndexOutOfBoundsException" (¬ ∃ k, k < (nn + 31) / 32 ∧ x = nI k)) 1 6 (va_A (wX h0 h1 h2 cA cB M S (nI nn) (nI pp)) sz) := by
  refine vx_ofW (cc := c_X_begins) (maxL := 2) (ret := (some .int)) (by decide) rfl ?_
  intro p e s m args below meth c s₁ B hml htab hv
  obtain ⟨rfl, ⟨hsz, hP, hK, hD0⟩, hZ⟩ := hv
  have hx := B.exec
  have hb := B.bytes
  have hr := B.returns
  have hts : ∀ w ∈ zAll, w.before _ s = true := fun w h => atoms_spec (ws := ws_X_begins) B.pre w (List.mem_cons_of_mem _ h)
  have hown : s.vm.findClass RX = some m.cls := findClass_of_methodNamed B.named
  have hlocks := B.notSynchronized
  subst hsz
  have hD := hD0.self (sz := s.heap.size)
  generalize hAe : va_A (wX h0 h1 h2 cA cB M S (nI nn) (nI pp)) s.heap.size = A at hD hZ ⊢
  have hA : ∀ q : Nat, s.heap.size ≤ q → A q := fun q h => by rw [← hAe]; exact Or.inr h
  have hS : va_S A s.heap s.heap [] := va_S.rf
  replace hP : va_P (dC, dI) vwCl [(h0, .inr (0, [.ref h1, .ref h2, .int (nI nn), .int (nI pp)])), (h1, .inl (cA, 512, .inl M)), (h2, .inl (cB, 512, .inl S))] s.heap := hP
  replace hD : va_D A [(h0, .inr (0, [.ref h1, .ref h2, .int (nI nn), .int (nI pp)])), (h1, .inl (cA, 512, .inl M)), (h2, .inl (cB, 512, .inl S))] := hD
  have hl := lv_entry ([.ref h0, .int x]) (n := 2) (Nat.le_of_ble_eq_true rfl)
  rw [lg_entry_eq]
  generalize (lg_sl ([.ref h0, .int x]) ++ List.replicate (2 - (lg_sl ([.ref h0, .int x])).length) Slot.unset).toArray = ls at hl ⊢
  replace hl : lv_has ls 2 [(0, .ref h0), (1, .int x)] := hl
  have gi := g0
  obtain ⟨i1, i2, i3, i4, i5, i6⟩ := gi
  have hpp : pp < 16385 := by (rw [i5]; have := zc_le (zm M) nn; omega)
  refine lv_aload_n hx hb d_X_begins_0 rfl (lv_at hl 0 rfl) ?_
  refine lv_iload_n hx hb d_X_begins_1 rfl (lv_at hl 1 rfl) ?_
  refine cx_Vv (wc := [(h0, .inr (0, [.ref h1, .ref h2, .int (nI nn), .int (nI pp)])), (h1, .inl (cA, 512, .inl M)), (h2, .inl (cB, 512, .inl S))]) (wr := []) (tys' := [(cA, .int), (cB, .int)]) ⟨hx, hb, hml, hown, hts⟩ hP hD hK hS hA hZ [0, 1, 2] [] [0, 1] rfl rfl rfl (by decide) (by decide) (by decide) rfl (c_checkCard l hlt dC dI h0 h1 h2 cA cB _ M S nn (nI pp) x i2) (cwV 1 hts g_X_56 rfl rfl rfl (by decide +kernel) ⟨Nat.le_of_ble_eq_true rfl, Nat.le_of_ble_eq_true rfl⟩) 0 0 rfl rfl rfl rfl hl.1 rfl (Nat.le_of_ble_eq_true rfl) d_X_begins_2 ⟨Nat.le_of_ble_eq_true rfl, Nat.le_of_ble_eq_true rfl⟩ (fun ce q9 H locs hbad hP hD hS y1 y2 y3 => vx_out (fun x9 h9 => (htab x9 h9).elim) hlocks y1 y2 y3 (fun t9 ht9 hal => ⟨(), hbad, ⟨rfl, by rw [ht9]; exact hP, va_K.moved hal hK, hD⟩, hS.F ht9⟩) hS.2.2 (by decide) (by decide)) (fun u H locs hw hP hD hS => ?_)
  replace hP : va_P (dC, dI) vwCl [(h0, .inr (0, [.ref h1, .ref h2, .int (nI nn), .int (nI pp)])), (h1, .inl (cA, 512, .inl M)), (h2, .inl (cB, 512, .inl S))] H := hP
  replace hD : va_D A [(h0, .inr (0, [.ref h1, .ref h2, .int (nI nn), .int (nI pp)])), (h1, .inl (cA, 512, .inl M)), (h2, .inl (cB, 512, .inl S))] := hD
  obtain ⟨k, k1, rfl⟩ := hw
  refine lv_aload_n hx hb d_X_begins_5 rfl (lv_at hl 0 rfl) ?_
  refine va_get (D := (dC, dI)) (ci := 0) (v := .ref h1) (C := RX) (T := TX) (N := 4) hx hb hts inX hown hK hP 0 rfl rfl 0 (by decide) (hts _ wl_X_9) (fun _ h9 => h9) rfl d_X_begins_6 ?_
  refine lv_iload_n hx hb d_X_begins_9 rfl (lv_at hl 1 rfl) ?_
  refine va_iald hx hb hK hP 1 0 rfl rfl (vp_in_nI (by omega) (by decide)) d_X_begins_10 ?_
  refine lv_topi (nm_r (show _ = M k from by rw [nI_clamp (by omega)]) ?_)
  refine cc_Si (wc := []) (wr := [(h0, .inr (0, [.ref h1, .ref h2, .int (nI nn), .int (nI pp)])), (h1, .inl (cA, 512, .inl M)), (h2, .inl (cB, 512, .inl S))]) (tys' := []) ⟨hx, hb, hml, hown, hts⟩ hP hD hK hS hA [] [0, 1, 2] [] rfl rfl rfl (by decide) (by decide) (by decide) rfl (k_pop l dC dI _ (M k)) (va_cwS 1 hts g_X_59 rfl rfl rfl (by decide +kernel) ⟨Nat.le_of_ble_eq_true rfl, Nat.le_of_ble_eq_true rfl⟩) rfl hl.1 rfl (Nat.le_of_ble_eq_true rfl) d_X_begins_11 ⟨Nat.le_of_ble_eq_true rfl, Nat.le_of_ble_eq_true rfl⟩ (fun r_9 u H locs hw hP hD hS => ?_)
  replace hP : va_P (dC, dI) vwCl [(h0, .inr (0, [.ref h1, .ref h2, .int (nI nn), .int (nI pp)])), (h1, .inl (cA, 512, .inl M)), (h2, .inl (cB, 512, .inl S))] H := hP
  replace hD : va_D A [(h0, .inr (0, [.ref h1, .ref h2, .int (nI nn), .int (nI pp)])), (h1, .inl (cA, 512, .inl M)), (h2, .inl (cB, 512, .inl S))] := hD
  subst hw
  refine W.widen (k := 1) (n := 6) (by decide) (by decide) ?_
  refine vx_ret ?_
  exact W.iret (v := nI (zc (bt (M k)) 32)) hx hb hr (fun t9 ht9 hW9 => ⟨⟨nI (zc (bt (M k)) 32), (), rfl, ⟨k, k1, rfl, rfl⟩, by rw [ht9]; exact hP, va_K.moved hW9.alike hK, hD⟩, hS.F ht9⟩) hS.2.2 d_X_begins_14
set_option maxHeartbeats 4000000 in
set_option maxRecDepth 100000 in
/-- cut(x) -/
theorem c_cut (l : Launch) (hlt : l.stackTraces = false) (dC : Nat → ClassId) (dI : Nat → Nat → Nat) (h0 h1 h2 : Nat) (cA cB : ClassId) (sz : Nat) (M S : Nat → Int32) (nn pp : Nat) (g0 : zCI nn pp M S) (x : Int32) : vx_Met l y_X_cut ws_X_cut ({ frames := 7, cells := 1, slots := 6, locals := 111 }) (va_Pc [.ref h0, .int x] (cx_P (dC, dI) vwCl (wX h0 h1 h2 cA cB M S (nI nn) (nI pp)) (tX cA cB) sz)) (va_Qi (S := (Nat → Int32) × (Nat → Int32) × Nat) (fun (r : Int32) (u : (Nat → Int32) × (Nat → Int32) × Nat) => ∃ k, k < nn ∧ x = nI k ∧ r = nI (k - zb (zm M) k) ∧ zCI nn u.2.2 u.1 u.2.1 ∧ ∀ j, zm u.1 j = (zm M j || decide (j = k))) (fun u t => cc_B (dC, dI) vwCl (tX cA cB) (va_A (wX h0 h1 h2 cA cB M S (nI nn) (nI pp)) sz) ((fun u : (Nat → Int32) × (Nat → Int32) × Nat => (wX h0 h1 h2 cA cB u.1 u.2.1 (nI nn) (nI u.2.2))) u) t) (va_A (wX h0 h1 h2 cA cB M S (nI nn) (nI pp)) sz)) (cx_X (dC, dI) vwCl (tX cA cB) (wX h0 h1 h2 cA cB M S (nI nn) (nI pp)) (va_A (wX h0 h1 h2 cA cB M S (nI nn) (nI pp)) sz) "java/lang/IndexOutOfBoundsException" (¬ ∃ k, k < nn ∧ x = nI k)) 1 6 (va_A (wX h0 h1 h2 cA cB M S (nI nn) (nI pp)) sz) := by
  refine vx_ofW (cc := c_X_cut) (maxL := 3) (ret := (some .int)) (by decide) rfl ?_
  intro p e s m args below meth c s₁ B hml htab hv
  obtain ⟨rfl, ⟨hsz, hP, hK, hD0⟩, hZ⟩ := hv
  have hx := B.exec
  have hb := B.bytes
  have hr := B.returns
  have hts : ∀ w ∈ zAll, w.before _ s = true := fun w h => atoms_spec (ws := ws_X_cut) B.pre w (List.mem_cons_of_mem _ h)
  have hown : s.vm.findClass RX = some m.cls := findClass_of_methodNamed B.named
  have hlocks := B.notSynchronized
  subst hsz
  have hD := hD0.self (sz := s.heap.size)
  generalize hAe : va_A (wX h0 h1 h2 cA cB M S (nI nn) (nI pp)) s.heap.size = A at hD hZ ⊢
  have hA : ∀ q : Nat, s.heap.size ≤ q → A q := fun q h => by rw [← hAe]; exact Or.inr h
  have hS : va_S A s.heap s.heap [] := va_S.rf
  replace hP : va_P (dC, dI) vwCl [(h0, .inr (0, [.ref h1, .ref h2, .int (nI nn), .int (nI pp)])), (h1, .inl (cA, 512, .inl M)), (h2, .inl (cB, 512, .inl S))] s.heap := hP
  replace hD : va_D A [(h0, .inr (0, [.ref h1, .ref h2, .int (nI nn), .int (nI pp)])), (h1, .inl (cA, 512, .inl M)), (h2, .inl (cB, 512, .inl S))] := hD
  have hl := lv_entry ([.ref h0, .int x]) (n := 3) (Nat.le_of_ble_eq_true rfl)
  rw [lg_entry_eq]
  generalize (lg_sl ([.ref h0, .int x]) ++ List.replicate (3 - (lg_sl ([.ref h0, .int x])).length) Slot.unset).toArray = ls at hl ⊢
  replace hl : lv_has ls 3 [(0, .ref h0), (1, .int x)] := hl
  have gi := g0
  obtain ⟨i1, i2, i3, i4, i5, i6⟩ := gi
  have hpp : pp < 16385 := by (rw [i5]; have := zc_le (zm M) nn; omega)
  refine lv_aload_n hx hb d_X_cut_0 rfl (lv_at hl 0 rfl) ?_
  refine lv_iload_n hx hb d_X_cut_1 rfl (lv_at hl 1 rfl) ?_
  refine cx_Vv (wc := [(h0, .inr (0, [.ref h1, .ref h2, .int (nI nn), .int (nI pp)])), (h1, .inl (cA, 512, .inl M)), (h2, .inl (cB, 512, .inl S))]) (wr := []) (tys' := [(cA, .int), (cB, .int)]) ⟨hx, hb, hml, hown, hts⟩ hP hD hK hS hA hZ [0, 1, 2] [] [0, 1] rfl rfl rfl (by decide) (by decide) (by decide) rfl (c_checkCell l hlt dC dI h0 h1 h2 cA cB _ M S nn (nI pp) x i2) (cwV 1 hts g_X_31 rfl rfl rfl (by decide +kernel) ⟨Nat.le_of_ble_eq_true rfl, Nat.le_of_ble_eq_true rfl⟩) 0 0 rfl rfl rfl rfl hl.1 rfl (Nat.le_of_ble_eq_true rfl) d_X_cut_2 ⟨Nat.le_of_ble_eq_true rfl, Nat.le_of_ble_eq_true rfl⟩ (fun ce q9 H locs hbad hP hD hS y1 y2 y3 => vx_out (fun x9 h9 => (htab x9 h9).elim) hlocks y1 y2 y3 (fun t9 ht9 hal => ⟨(), hbad, ⟨rfl, by rw [ht9]; exact hP, va_K.moved hal hK, hD⟩, hS.F ht9⟩) hS.2.2 (by decide) (by decide)) (fun u H locs hw hP hD hS => ?_)
  replace hP : va_P (dC, dI) vwCl [(h0, .inr (0, [.ref h1, .ref h2, .int (nI nn), .int (nI pp)])), (h1, .inl (cA, 512, .inl M)), (h2, .inl (cB, 512, .inl S))] H := hP
  replace hD : va_D A [(h0, .inr (0, [.ref h1, .ref h2, .int (nI nn), .int (nI pp)])), (h1, .inl (cA, 512, .inl M)), (h2, .inl (cB, 512, .inl S))] := hD
  obtain ⟨k, k1, rfl⟩ := hw
  refine lv_iload_n hx hb d_X_cut_5 rfl (lv_at hl 1 rfl) ?_
  refine lv_aload_n hx hb d_X_cut_6 rfl (lv_at hl 0 rfl) ?_
  refine lv_iload_n hx hb d_X_cut_7 rfl (lv_at hl 1 rfl) ?_
  refine cc_Vi (wc := [(h0, .inr (0, [.ref h1, .ref h2, .int (nI nn), .int (nI pp)])), (h1, .inl (cA, 512, .inl M)), (h2, .inl (cB, 512, .inl S))]) (wr := []) (tys' := [(cA, .int), (cB, .int)]) ⟨hx, hb, hml, hown, hts⟩ hP hD hK hS hA [0, 1, 2] [] [0, 1] rfl rfl rfl (by decide) (by decide) (by decide) rfl (c_beginOf l dC dI h0 h1 h2 cA cB _ M S nn (nI pp) k (by omega) i3 (i6 _ (by omega))) (cwV 1 hts g_X_34 rfl rfl rfl (by decide +kernel) ⟨Nat.le_of_ble_eq_true rfl, Nat.le_of_ble_eq_true rfl⟩) 0 0 rfl rfl rfl rfl hl.1 rfl (Nat.le_of_ble_eq_true rfl) d_X_cut_8 ⟨Nat.le_of_ble_eq_true rfl, Nat.le_of_ble_eq_true rfl⟩ (fun r_9 u H locs hw hP hD hS => ?_)
  replace hP : va_P (dC, dI) vwCl [(h0, .inr (0, [.ref h1, .ref h2, .int (nI nn), .int (nI pp)])), (h1, .inl (cA, 512, .inl M)), (h2, .inl (cB, 512, .inl S))] H := hP
  replace hD : va_D A [(h0, .inr (0, [.ref h1, .ref h2, .int (nI nn), .int (nI pp)])), (h1, .inl (cA, 512, .inl M)), (h2, .inl (cB, 512, .inl S))] := hD
  subst hw
  have zl_k := zb_le (zm M) k
  refine lv_isub hx hb d_X_cut_11 ?_
  refine lv_topi (nm_r (show _ = nI (k - (zb (zm M) k)) from pk_sub (by omega)) ?_)
  refine lv_istore_n (lv' := [(2, .int (nI (k - (zb (zm M) k)))), (0, .ref h0), (1, .int (nI k))]) hx hb d_X_cut_12 rfl hl (by decide) rfl (fun ls hl => ?_)
  refine lv_aload_n hx hb d_X_cut_13 rfl (lv_at hl 1 rfl) ?_
  refine lv_iload_n hx hb d_X_cut_14 rfl (lv_at hl 2 rfl) ?_
  refine cc_Vv (wc := [(h0, .inr (0, [.ref h1, .ref h2, .int (nI nn), .int (nI pp)])), (h1, .inl (cA, 512, .inl M)), (h2, .inl (cB, 512, .inl S))]) (wr := []) (tys' := [(cA, .int), (cB, .int)]) ⟨hx, hb, hml, hown, hts⟩ hP hD hK hS hA [0, 1, 2] [] [0, 1] rfl rfl rfl (by decide) (by decide) (by decide) rfl (c_cutAt l dC dI h0 h1 h2 cA cB _ M S nn pp k g0 k1) (cwV 1 hts g_X_38 rfl rfl rfl (by decide +kernel) ⟨Nat.le_of_ble_eq_true rfl, Nat.le_of_ble_eq_true rfl⟩) 0 0 rfl rfl rfl rfl hl.1 rfl (Nat.le_of_ble_eq_true rfl) d_X_cut_15 ⟨Nat.le_of_ble_eq_true rfl, Nat.le_of_ble_eq_true rfl⟩ (fun u H locs hw hP hD hS => ?_)
  replace hP : va_P (dC, dI) vwCl [(h0, .inr (0, [.ref h1, .ref h2, .int (nI nn), .int (nI u.2.2)])), (h1, .inl (cA, 512, .inl u.1)), (h2, .inl (cB, 512, .inl u.2.1))] H := hP
  replace hD : va_D A [(h0, .inr (0, [.ref h1, .ref h2, .int (nI nn), .int (nI u.2.2)])), (h1, .inl (cA, 512, .inl u.1)), (h2, .inl (cB, 512, .inl u.2.1))] := hD
  refine lv_iload_n hx hb d_X_cut_18 rfl (lv_at hl 0 rfl) ?_
  refine W.widen (k := 1) (n := 6) (by decide) (by decide) ?_
  refine vx_ret ?_
  exact W.iret (v := nI (k - (zb (zm M) k))) hx hb hr (fun t9 ht9 hW9 => ⟨⟨nI (k - (zb (zm M) k)), u, rfl, ⟨k, k1, rfl, rfl, hw⟩, by rw [ht9]; exact hP, va_K.moved hW9.alike hK, hD⟩, hS.F ht9⟩) hS.2.2 d_X_cut_19
set_option maxHeartbeats 4000000 in
set_option maxRecDepth 100000 in
/-- join(x) -/
theorem c_join (l : Launch) (hlt : l.stackTraces = false) (dC : Nat → ClassId) (dI : Nat → Nat → Nat) (h0 h1 h2 : Nat) (cA cB : ClassId) (sz : Nat) (M S : Nat → Int32) (nn pp : Nat) (g0 : zCI nn pp M S) (x : Int32) : vx_Met l y_X_join ws_X_join ({ frames := 7, cells := 1, slots := 6, locals := 111 }) (va_Pc [.ref h0, .int x] (cx_P (dC, dI) vwCl (wX h0 h1 h2 cA cB M S (nI nn) (nI pp)) (tX cA cB) sz)) (va_Qi (S := (Nat → Int32) × (Nat → Int32) × Nat) (fun (r : Int32) (u : (Nat → Int32) × (Nat → Int32) × Nat) => ∃ k, k < nn ∧ x = nI k ∧ r = nI (if zn (zm M) nn (k + 1) < nn then zn (zm M) nn (zn (zm M) nn (k + 1) + 1) - zb (zm M) k else 0) ∧ zCI nn u.2.2 u.1 u.2.1 ∧ ∀ j, j < 16384 → zm u.1 j = (zm M j && !decide (j = zn (zm M) nn (k + 1)))) (fun u t => cc_B (dC, dI) vwCl (tX cA cB) (va_A (wX h0 h1 h2 cA cB M S (nI nn) (nI pp)) sz) ((fun u : (Nat → Int32) × (Nat → Int32) × Nat => (wX h0 h1 h2 cA cB u.1 u.2.1 (nI nn) (nI u.2.2))) u) t) (va_A (wX h0 h1 h2 cA cB M S (nI nn) (nI pp)) sz)) (cx_X (dC, dI) vwCl (tX cA cB) (wX h0 h1 h2 cA cB M S (nI nn) (nI pp)) (va_A (wX h0 h1 h2 cA cB M S (nI nn) (nI pp)) sz) "java/lang/IndexOutOfBoundsException" (¬ ∃ k, k < nn ∧ x = nI k)) 1 6 (va_A (wX h0 h1 h2 cA cB M S (nI nn) (nI pp)) sz) := by
  refine vx_ofW (cc := c_X_join) (maxL := 5) (ret := (some .int)) (by decide) rfl ?_
  intro p e s m args below meth c s₁ B hml htab hv
  obtain ⟨rfl, ⟨hsz, hP, hK, hD0⟩, hZ⟩ := hv
  have hx := B.exec
  have hb := B.bytes
  have hr := B.returns
  have hts : ∀ w ∈ zAll, w.before _ s = true := fun w h => atoms_spec (ws := ws_X_join) B.pre w (List.mem_cons_of_mem _ h)
  have hown : s.vm.findClass RX = some m.cls := findClass_of_methodNamed B.named
  have hlocks := B.notSynchronized
  subst hsz
  have hD := hD0.self (sz := s.heap.size)
  generalize hAe : va_A (wX h0 h1 h2 cA cB M S (nI nn) (nI pp)) s.heap.size = A at hD hZ ⊢
  have hA : ∀ q : Nat, s.heap.size ≤ q → A q := fun q h => by rw [← hAe]; exact Or.inr h
  have hS : va_S A s.heap s.heap [] := va_S.rf
  replace hP : va_P (dC, dI) vwCl [(h0, .inr (0, [.ref h1, .ref h2, .int (nI nn), .int (nI pp)])), (h1, .inl (cA, 512, .inl M)), (h2, .inl (cB, 512, .inl S))] s.heap := hP
  replace hD : va_D A [(h0, .inr (0, [.ref h1, .ref h2, .int (nI nn), .int (nI pp)])), (h1, .inl (cA, 512, .inl M)), (h2, .inl (cB, 512, .inl S))] := hD
  have hl := lv_entry ([.ref h0, .int x]) (n := 5) (Nat.le_of_ble_eq_true rfl)
  rw [lg_entry_eq]
  generalize (lg_sl ([.ref h0, .int x]) ++ List.replicate (5 - (lg_sl ([.ref h0, .int x])).length) Slot.unset).toArray = ls at hl ⊢
  replace hl : lv_has ls 5 [(0, .ref h0), (1, .int x)] := hl
  have gi := g0
  obtain ⟨i1, i2, i3, i4, i5, i6⟩ := gi
  have hpp : pp < 16385 := by (rw [i5]; have := zc_le (zm M) nn; omega)
  refine lv_aload_n hx hb d_X_join_0 rfl (lv_at hl 0 rfl) ?_
  refine lv_iload_n hx hb d_X_join_1 rfl (lv_at hl 1 rfl) ?_
  refine cx_Vv (wc := [(h0, .inr (0, [.ref h1, .ref h2, .int (nI nn), .int (nI pp)])), (h1, .inl (cA, 512, .inl M)), (h2, .inl (cB, 512, .inl S))]) (wr := []) (tys' := [(cA, .int), (cB, .int)]) ⟨hx, hb, hml, hown, hts⟩ hP hD hK hS hA hZ [0, 1, 2] [] [0, 1] rfl rfl rfl (by decide) (by decide) (by decide) rfl (c_checkCell l hlt dC dI h0 h1 h2 cA cB _ M S nn (nI pp) x i2) (cwV 1 hts g_X_31 rfl rfl rfl (by decide +kernel) ⟨Nat.le_of_ble_eq_true rfl, Nat.le_of_ble_eq_true rfl⟩) 0 0 rfl rfl rfl rfl hl.1 rfl (Nat.le_of_ble_eq_true rfl) d_X_join_2 ⟨Nat.le_of_ble_eq_true rfl, Nat.le_of_ble_eq_true rfl⟩ (fun ce q9 H locs hbad hP hD hS y1 y2 y3 => vx_out (fun x9 h9 => (htab x9 h9).elim) hlocks y1 y2 y3 (fun t9 ht9 hal => ⟨(), hbad, ⟨rfl, by rw [ht9]; exact hP, va_K.moved hal hK, hD⟩, hS.F ht9⟩) hS.2.2 (by decide) (by decide)) (fun u H locs hw hP hD hS => ?_)
  replace hP : va_P (dC, dI) vwCl [(h0, .inr (0, [.ref h1, .ref h2, .int (nI nn), .int (nI pp)])), (h1, .inl (cA, 512, .inl M)), (h2, .inl (cB, 512, .inl S))] H := hP
  replace hD : va_D A [(h0, .inr (0, [.ref h1, .ref h2, .int (nI nn), .int (nI pp)])), (h1, .inl (cA, 512, .inl M)), (h2, .inl (cB, 512, .inl S))] := hD
  obtain ⟨k, k1, rfl⟩ := hw
  refine lv_aload_n hx hb d_X_join_5 rfl (lv_at hl 0 rfl) ?_
  refine lv_iload_n hx hb d_X_join_6 rfl (lv_at hl 1 rfl) ?_
  refine cc_Vi (wc := [(h0, .inr (0, [.ref h1, .ref h2, .int (nI nn), .int (nI pp)])), (h1, .inl (cA, 512, .inl M)), (h2, .inl (cB, 512, .inl S))]) (wr := []) (tys' := [(cA, .int), (cB, .int)]) ⟨hx, hb, hml, hown, hts⟩ hP hD hK hS hA [0, 1, 2] [] [0, 1] rfl rfl rfl (by decide) (by decide) (by decide) rfl (c_endOf l dC dI h0 h1 h2 cA cB _ M S nn (nI pp) k k1 i2 i4) (cwV 1 hts g_X_41 rfl rfl rfl (by decide +kernel) ⟨Nat.le_of_ble_eq_true rfl, Nat.le_of_ble_eq_true rfl⟩) 0 0 rfl rfl rfl rfl hl.1 rfl (Nat.le_of_ble_eq_true rfl) d_X_join_7 ⟨Nat.le_of_ble_eq_true rfl, Nat.le_of_ble_eq_true rfl⟩ (fun r_9 u H locs hw hP hD hS => ?_)
  replace hP : va_P (dC, dI) vwCl [(h0, .inr (0, [.ref h1, .ref h2, .int (nI nn), .int (nI pp)])), (h1, .inl (cA, 512, .inl M)), (h2, .inl (cB, 512, .inl S))] H := hP
  replace hD : va_D A [(h0, .inr (0, [.ref h1, .ref h2, .int (nI nn), .int (nI pp)])), (h1, .inl (cA, 512, .inl M)), (h2, .inl (cB, 512, .inl S))] := hD
  subst hw
  have zg_k := zn_ge (zm M) nn (k + 1)
  have zh_k : zn (zm M) nn (k + 1) ≤ nn := zn_le (by omega)
  refine lv_istore_n (lv' := [(2, .int (nI (zn (zm M) nn (k + 1)))), (0, .ref h0), (1, .int (nI k))]) hx hb d_X_join_10 rfl hl (by decide) rfl (fun ls hl => ?_)
  refine lv_iload_n hx hb d_X_join_11 rfl (lv_at hl 0 rfl) ?_
  refine lv_aload_n hx hb d_X_join_12 rfl (lv_at hl 1 rfl) ?_
  refine va_get (D := (dC, dI)) (ci := 0) (v := .int (nI nn)) (C := RX) (T := TX) (N := 4) hx hb hts inX hown hK hP 0 rfl rfl 2 (by decide) (hts _ wl_X_27) (fun _ h9 => h9) rfl d_X_join_13 ?_
  refine lv_icmp_lt (tgt := 21) hx hb d_X_join_16 (by decide) (fun c1 => ?_) (fun c1 => ?_)
  · replace c1 : zn (zm M) nn (k + 1) < nn := (nI_ltI (a := zn (zm M) nn (k + 1)) (b := nn) (by omega) (by omega)).mp c1
    refine lv_aload_n hx hb d_X_join_21 rfl (lv_at hl 1 rfl) ?_
    refine lv_iload_n hx hb d_X_join_22 rfl (lv_at hl 2 rfl) ?_
    refine cc_Vi (wc := [(h0, .inr (0, [.ref h1, .ref h2, .int (nI nn), .int (nI pp)])), (h1, .inl (cA, 512, .inl M)), (h2, .inl (cB, 512, .inl S))]) (wr := []) (tys' := [(cA, .int), (cB, .int)]) ⟨hx, hb, hml, hown, hts⟩ hP hD hK hS hA [0, 1, 2] [] [0, 1] rfl rfl rfl (by decide) (by decide) (by decide) rfl (c_beginOf l dC dI h0 h1 h2 cA cB _ M S nn (nI pp) k (by omega) i3 (i6 _ (by omega))) (cwV 1 hts g_X_34 rfl rfl rfl (by decide +kernel) ⟨Nat.le_of_ble_eq_true rfl, Nat.le_of_ble_eq_true rfl⟩) 0 0 rfl rfl rfl rfl hl.1 rfl (Nat.le_of_ble_eq_true rfl) d_X_join_23 ⟨Nat.le_of_ble_eq_true rfl, Nat.le_of_ble_eq_true rfl⟩ (fun r_9 u H locs hw hP hD hS => ?_)
    replace hP : va_P (dC, dI) vwCl [(h0, .inr (0, [.ref h1, .ref h2, .int (nI nn), .int (nI pp)])), (h1, .inl (cA, 512, .inl M)), (h2, .inl (cB, 512, .inl S))] H := hP
    replace hD : va_D A [(h0, .inr (0, [.ref h1, .ref h2, .int (nI nn), .int (nI pp)])), (h1, .inl (cA, 512, .inl M)), (h2, .inl (cB, 512, .inl S))] := hD
    subst hw
    have zl_k := zb_le (zm M) k
    refine lv_istore_n (lv' := [(3, .int (nI (zb (zm M) k))), (2, .int (nI (zn (zm M) nn (k + 1)))), (0, .ref h0), (1, .int (nI k))]) hx hb d_X_join_26 rfl hl (by decide) rfl (fun ls hl => ?_)
    refine lv_aload_n hx hb d_X_join_27 rfl (lv_at hl 2 rfl) ?_
    refine lv_iload_n hx hb d_X_join_28 rfl (lv_at hl 1 rfl) ?_
    refine cc_Vi (wc := [(h0, .inr (0, [.ref h1, .ref h2, .int (nI nn), .int (nI pp)])), (h1, .inl (cA, 512, .inl M)), (h2, .inl (cB, 512, .inl S))]) (wr := []) (tys' := [(cA, .int), (cB, .int)]) ⟨hx, hb, hml, hown, hts⟩ hP hD hK hS hA [0, 1, 2] [] [0, 1] rfl rfl rfl (by decide) (by decide) (by decide) rfl (c_endOf l dC dI h0 h1 h2 cA cB _ M S nn (nI pp) (zn (zm M) nn (k + 1)) c1 i2 i4) (cwV 1 hts g_X_41 rfl rfl rfl (by decide +kernel) ⟨Nat.le_of_ble_eq_true rfl, Nat.le_of_ble_eq_true rfl⟩) 0 0 rfl rfl rfl rfl hl.1 rfl (Nat.le_of_ble_eq_true rfl) d_X_join_29 ⟨Nat.le_of_ble_eq_true rfl, Nat.le_of_ble_eq_true rfl⟩ (fun r_9 u H locs hw hP hD hS => ?_)
    replace hP : va_P (dC, dI) vwCl [(h0, .inr (0, [.ref h1, .ref h2, .int (nI nn), .int (nI pp)])), (h1, .inl (cA, 512, .inl M)), (h2, .inl (cB, 512, .inl S))] H := hP
    replace hD : va_D A [(h0, .inr (0, [.ref h1, .ref h2, .int (nI nn), .int (nI pp)])), (h1, .inl (cA, 512, .inl M)), (h2, .inl (cB, 512, .inl S))] := hD
    subst hw
    have zg_znzmMnnk1 := zn_ge (zm M) nn (zn (zm M) nn (k + 1) + 1)
    have zh_znzmMnnk1 : zn (zm M) nn (zn (zm M) nn (k + 1) + 1) ≤ nn := zn_le (by omega)
    refine lv_istore (lv' := [(4, .int (nI (zn (zm M) nn (zn (zm M) nn (k + 1) + 1)))), (3, .int (nI (zb (zm M) k))), (2, .int (nI (zn (zm M) nn (k + 1)))), (0, .ref h0), (1, .int (nI k))]) hx hb d_X_join_32 hl (by decide) rfl (fun ls hl => ?_)
    refine lv_aload_n hx hb d_X_join_34 rfl (lv_at hl 3 rfl) ?_
    refine lv_iload_n hx hb d_X_join_35 rfl (lv_at hl 1 rfl) ?_
    refine lv_iload hx hb d_X_join_36 (lv_at hl 0 rfl) ?_
    refine cc_Vv (wc := [(h0, .inr (0, [.ref h1, .ref h2, .int (nI nn), .int (nI pp)])), (h1, .inl (cA, 512, .inl M)), (h2, .inl (cB, 512, .inl S))]) (wr := []) (tys' := [(cA, .int), (cB, .int)]) ⟨hx, hb, hml, hown, hts⟩ hP hD hK hS hA [0, 1, 2] [] [0, 1] rfl rfl rfl (by decide) (by decide) (by decide) rfl (c_merge l dC dI h0 h1 h2 cA cB _ M S nn pp (zb (zm M) k) (zn (zm M) nn (zn (zm M) nn (k + 1) + 1)) g0 (by omega) (by omega) (zb_on i3 k) (z_nxo (by omega))) (cwV 2 hts g_X_44 rfl rfl rfl (by decide +kernel) ⟨Nat.le_of_ble_eq_true rfl, Nat.le_of_ble_eq_true rfl⟩) 0 0 rfl rfl rfl rfl hl.1 rfl (Nat.le_of_ble_eq_true rfl) d_X_join_38 ⟨Nat.le_of_ble_eq_true rfl, Nat.le_of_ble_eq_true rfl⟩ (fun u H locs hw hP hD hS => ?_)
    replace hP : va_P (dC, dI) vwCl [(h0, .inr (0, [.ref h1, .ref h2, .int (nI nn), .int (nI u.2.2)])), (h1, .inl (cA, 512, .inl u.1)), (h2, .inl (cB, 512, .inl u.2.1))] H := hP
    replace hD : va_D A [(h0, .inr (0, [.ref h1, .ref h2, .int (nI nn), .int (nI u.2.2)])), (h1, .inl (cA, 512, .inl u.1)), (h2, .inl (cB, 512, .inl u.2.1))] := hD
    refine lv_iload hx hb d_X_join_41 (lv_at hl 0 rfl) ?_
    refine lv_iload_n hx hb d_X_join_43 rfl (lv_at hl 1 rfl) ?_
    refine lv_isub hx hb d_X_join_44 ?_
    refine lv_topi (nm_r (show _ = nI ((zn (zm M) nn (zn (zm M) nn (k + 1) + 1)) - (zb (zm M) k)) from pk_sub (by omega)) ?_)
    refine W.widen (k := 1) (n := 6) (by decide) (by decide) ?_
    refine vx_ret ?_
    exact W.iret (v := nI ((zn (zm M) nn (zn (zm M) nn (k + 1) + 1)) - (zb (zm M) k))) hx hb hr (fun t9 ht9 hW9 => ⟨⟨nI ((zn (zm M) nn (zn (zm M) nn (k + 1) + 1)) - (zb (zm M) k)), u, rfl, ⟨k, k1, rfl, by rw [if_pos c1], hw.1, z_join1 k1 hw.2⟩, by rw [ht9]; exact hP, va_K.moved hW9.alike hK, hD⟩, hS.F ht9⟩) hS.2.2 d_X_join_45
  · replace c1 : ¬ (zn (zm M) nn (k + 1) < nn) := fun h9 => c1 ((nI_ltI (a := zn (zm M) nn (k + 1)) (b := nn) (by omega) (by omega)).mpr h9)
    refine lv_iconst (v := nI 0) hx hb d_X_join_19 (by decide) ?_
    refine W.widen (k := 1) (n := 6) (by decide) (by decide) ?_
    refine vx_ret ?_
    exact W.iret (v := nI 0) hx hb hr (fun t9 ht9 hW9 => ⟨⟨nI 0, (M, S, pp), rfl, ⟨k, k1, rfl, by rw [if_neg c1], g0, z_join0 (by omega) i4⟩, by rw [ht9]; exact hP, va_K.moved hW9.alike hK, hD⟩, hS.F ht9⟩) hS.2.2 d_X_join_20
end
section
set_option maxHeartbeats 4000000 in
set_option maxRecDepth 100000 in
/-- make(x, z) -/
theorem c_make (l : Launch) (hlt : l.stackTraces = false) (dC : Nat → ClassId) (dI : Nat → Nat → Nat) (h0 h1 h2 : Nat) (cA cB : ClassId) (sz : Nat) (M S : Nat → Int32) (nn pp : Nat) (g0 : zCI nn pp M S) (x z : Int32) : vx_Met l y_X_make ws_X_make ({ frames := 7, cells := 2, slots := 12, locals := 111 }) (va_Pc [.ref h0, .int x, .int z] (cx_P (dC, dI) vwCl (wX h0 h1 h2 cA cB M S (nI nn) (nI pp)) (tX cA cB) sz)) (va_Qi (S := (Nat → Int32) × (Nat → Int32) × Nat) (fun (r : Int32) (u : (Nat → Int32) × (Nat → Int32) × Nat) => ∃ a b, x = nI a ∧ z = nI b ∧ a < b ∧ b ≤ nn ∧ r = nI u.2.2 ∧ zCI nn u.2.2 u.1 u.2.1 ∧ ∀ j, j < 16384 → zm u.1 j = ((zm M j || decide (j = a) || (decide (j = b) && decide (b < nn))) && !decide (a < j ∧ j < b))) (fun u t => cc_B (dC, dI) vwCl (tX cA cB) (va_A (wX h0 h1 h2 cA cB M S (nI nn) (nI pp)) sz) ((fun u : (Nat → Int32) × (Nat → Int32) × Nat => (wX h0 h1 h2 cA cB u.1 u.2.1 (nI nn) (nI u.2.2))) u) t) (va_A (wX h0 h1 h2 cA cB M S (nI nn) (nI pp)) sz)) (cx_X (dC, dI) vwCl (tX cA cB) (wX h0 h1 h2 cA cB M S (nI nn) (nI pp)) (va_A (wX h0 h1 h2 cA cB M S (nI nn) (nI pp)) sz) "java/lang/IndexOutOfBoundsException" (¬ ∃ a b, x = nI a ∧ z = nI b ∧ a < b ∧ b ≤ nn)) 2 12 (va_A (wX h0 h1 h2 cA cB M S (nI nn) (nI pp)) sz) := by
  refine vx_ofW (cc := c_X_make) (maxL := 3) (ret := (some .int)) (by decide) rfl ?_
  intro p e s m args below meth c s₁ B hml htab hv
  obtain ⟨rfl, ⟨hsz, hP, hK, hD0⟩, hZ⟩ := hv
  have hx := B.exec
  have hb := B.bytes
  have hr := B.returns
  have hts : ∀ w ∈ zAll, w.before _ s = true := fun w h => atoms_spec (ws := ws_X_make) B.pre w (List.mem_cons_of_mem _ h)
  have hown : s.vm.findClass RX = some m.cls := findClass_of_methodNamed B.named
  have hlocks := B.notSynchronized
  subst hsz
  have hD := hD0.self (sz := s.heap.size)
  generalize hAe : va_A (wX h0 h1 h2 cA cB M S (nI nn) (nI pp)) s.heap.size = A at hD hZ ⊢
  have hA : ∀ q : Nat, s.heap.size ≤ q → A q := fun q h => by rw [← hAe]; exact Or.inr h
  have hS : va_S A s.heap s.heap [] := va_S.rf
  replace hP : va_P (dC, dI) vwCl [(h0, .inr (0, [.ref h1, .ref h2, .int (nI nn), .int (nI pp)])), (h1, .inl (cA, 512, .inl M)), (h2, .inl (cB, 512, .inl S))] s.heap := hP
  replace hD : va_D A [(h0, .inr (0, [.ref h1, .ref h2, .int (nI nn), .int (nI pp)])), (h1, .inl (cA, 512, .inl M)), (h2, .inl (cB, 512, .inl S))] := hD
  have hl := lv_entry ([.ref h0, .int x, .int z]) (n := 3) (Nat.le_of_ble_eq_true rfl)
  rw [lg_entry_eq]
  generalize (lg_sl ([.ref h0, .int x, .int z]) ++ List.replicate (3 - (lg_sl ([.ref h0, .int x, .int z])).length) Slot.unset).toArray = ls at hl ⊢
  replace hl : lv_has ls 3 [(0, .ref h0), (1, .int x), (2, .int z)] := hl
  have gi := g0
  obtain ⟨i1, i2, i3, i4, i5, i6⟩ := gi
  have hpp : pp < 16385 := by (rw [i5]; have := zc_le (zm M) nn; omega)
  refine lv_aload_n hx hb d_X_make_0 rfl (lv_at hl 0 rfl) ?_
  refine lv_iload_n hx hb d_X_make_1 rfl (lv_at hl 1 rfl) ?_
  refine cx_Vv (wc := [(h0, .inr (0, [.ref h1, .ref h2, .int (nI nn), .int (nI pp)])), (h1, .inl (cA, 512, .inl M)), (h2, .inl (cB, 512, .inl S))]) (wr := []) (tys' := [(cA, .int), (cB, .int)]) ⟨hx, hb, hml, hown, hts⟩ hP hD hK hS hA hZ [0, 1, 2] [] [0, 1] rfl rfl rfl (by decide) (by decide) (by decide) rfl (c_checkCell l hlt dC dI h0 h1 h2 cA cB _ M S nn (nI pp) x i2) (cwV 1 hts g_X_31 rfl rfl rfl (by decide +kernel) ⟨Nat.le_of_ble_eq_true rfl, Nat.le_of_ble_eq_true rfl⟩) 0 0 rfl rfl rfl rfl hl.1 rfl (Nat.le_of_ble_eq_true rfl) d_X_make_2 ⟨Nat.le_of_ble_eq_true rfl, Nat.le_of_ble_eq_true rfl⟩ (fun ce q9 H locs hbad hP hD hS y1 y2 y3 => vx_out (fun x9 h9 => (htab x9 h9).elim) hlocks y1 y2 y3 (fun t9 ht9 hal => ⟨(), fun ⟨a, b, e1, e2, e3, e4⟩ => hbad ⟨a, by omega, e1⟩, ⟨rfl, by rw [ht9]; exact hP, va_K.moved hal hK, hD⟩, hS.F ht9⟩) hS.2.2 (by decide) (by decide)) (fun u H locs hw hP hD hS => ?_)
  replace hP : va_P (dC, dI) vwCl [(h0, .inr (0, [.ref h1, .ref h2, .int (nI nn), .int (nI pp)])), (h1, .inl (cA, 512, .inl M)), (h2, .inl (cB, 512, .inl S))] H := hP
  replace hD : va_D A [(h0, .inr (0, [.ref h1, .ref h2, .int (nI nn), .int (nI pp)])), (h1, .inl (cA, 512, .inl M)), (h2, .inl (cB, 512, .inl S))] := hD
  obtain ⟨k, k1, rfl⟩ := hw
  refine lv_iload_n hx hb d_X_make_5 rfl (lv_at hl 2 rfl) ?_
  refine lv_iload_n hx hb d_X_make_6 rfl (lv_at hl 1 rfl) ?_
  refine lv_icmp_le (tgt := 18) hx hb d_X_make_7 (by decide) (fun c1 => ?_) (fun c1 => ?_)
  · obtain ⟨sa, hsa⟩ := hZ.1 (RX, 50, "no such end of a piece") (by decide +kernel)
    exact vx_throwS hx hb hlt (own := RX) (cls := "java/lang/IndexOutOfBoundsException") (names := ["java/lang/RuntimeException", "java/lang/Exception"]) hown (by decide +kernel) (by decide +kernel) (hts _ wl_X_48) (hts _ win_IndexOutOfBoundsException) hsa (vx_hat (L := vx_atS RX 52 "java/lang/IndexOutOfBoundsException" ["java/lang/RuntimeException", "java/lang/Exception"]) (fun w hw => hts w (wx_IndexOutOfBoundsException w hw)) wb_IndexOutOfBoundsException (fun w hw => va_Nw.use (zBad_on w hw) (hZ.2.1 w hw))) wg_IndexOutOfBoundsException hZ.2.2.1 hZ.2.2.2 hS (hl.1.trans hml.symm) d_X_make_18 d_X_make_21 d_X_make_22 d_X_make_24 d_X_make_27 (fun x9 h9 => (htab x9 h9).elim) (by decide) (by decide) (by decide) (by decide) hlocks (fun t9 hal hz9 hk9 => ⟨(), fun ⟨a, b, e1, e2, e3, e4⟩ => by (have e5 : k = a := (nI_eq (by omega) (by omega)).mp e1; rw [e2] at c1; exact nI_ge (show k < b by omega) (by omega) c1), ⟨rfl, va_P.kept hP (fun k9 q9 h9 => hk9 q9.1 (vx_lt hP h9)), va_K.moved hal hK, hD⟩, ⟨Nat.le_trans hS.1 hz9, fun q9 a1 a2 => (hk9 q9 (Nat.lt_of_lt_of_le a1 hS.1)).trans (hS.2.1 q9 a1 a2)⟩⟩) hS.2.2 (by decide) (by decide)
  · refine lv_iload_n hx hb d_X_make_10 rfl (lv_at hl 2 rfl) ?_
    refine lv_aload_n hx hb d_X_make_11 rfl (lv_at hl 0 rfl) ?_
    refine va_get (D := (dC, dI)) (ci := 0) (v := .int (nI nn)) (C := RX) (T := TX) (N := 4) hx hb hts inX hown hK hP 0 rfl rfl 2 (by decide) (hts _ wl_X_27) (fun _ h9 => h9) rfl d_X_make_12 ?_
    refine lv_icmp_le (tgt := 28) hx hb d_X_make_15 (by decide) (fun c2 => ?_) (fun c2 => ?_)
    · obtain ⟨b, b1, b2, rfl⟩ := z_mkof c1 c2 (by omega)
      refine lv_aload_n hx hb d_X_make_28 rfl (lv_at hl 0 rfl) ?_
      refine lv_iload_n hx hb d_X_make_29 rfl (lv_at hl 1 rfl) ?_
      refine cc_Vv (wc := [(h0, .inr (0, [.ref h1, .ref h2, .int (nI nn), .int (nI pp)])), (h1, .inl (cA, 512, .inl M)), (h2, .inl (cB, 512, .inl S))]) (wr := []) (tys' := [(cA, .int), (cB, .int)]) ⟨hx, hb, hml, hown, hts⟩ hP hD hK hS hA [0, 1, 2] [] [0, 1] rfl rfl rfl (by decide) (by decide) (by decide) rfl (c_cutAt l dC dI h0 h1 h2 cA cB _ M S nn pp k g0 k1) (cwV 1 hts g_X_38 rfl rfl rfl (by decide +kernel) ⟨Nat.le_of_ble_eq_true rfl, Nat.le_of_ble_eq_true rfl⟩) 0 0 rfl rfl rfl rfl hl.1 rfl (Nat.le_of_ble_eq_true rfl) d_X_make_30 ⟨Nat.le_of_ble_eq_true rfl, Nat.le_of_ble_eq_true rfl⟩ (fun u H locs hw hP hD hS => ?_)
      replace hP : va_P (dC, dI) vwCl [(h0, .inr (0, [.ref h1, .ref h2, .int (nI nn), .int (nI u.2.2)])), (h1, .inl (cA, 512, .inl u.1)), (h2, .inl (cB, 512, .inl u.2.1))] H := hP
      replace hD : va_D A [(h0, .inr (0, [.ref h1, .ref h2, .int (nI nn), .int (nI u.2.2)])), (h1, .inl (cA, 512, .inl u.1)), (h2, .inl (cB, 512, .inl u.2.1))] := hD
      obtain ⟨M1, S1, p1⟩ := u
      obtain ⟨g2, hM1⟩ := hw
      dsimp only at g2 hM1
      replace hP : va_P (dC, dI) vwCl [(h0, .inr (0, [.ref h1, .ref h2, .int (nI nn), .int (nI p1)])), (h1, .inl (cA, 512, .inl M1)), (h2, .inl (cB, 512, .inl S1))] H := hP
      replace hD : va_D A [(h0, .inr (0, [.ref h1, .ref h2, .int (nI nn), .int (nI p1)])), (h1, .inl (cA, 512, .inl M1)), (h2, .inl (cB, 512, .inl S1))] := hD
      refine lv_iload_n hx hb d_X_make_33 rfl (lv_at hl 2 rfl) ?_
      refine lv_aload_n hx hb d_X_make_34 rfl (lv_at hl 0 rfl) ?_
      refine va_get (D := (dC, dI)) (ci := 0) (v := .int (nI nn)) (C := RX) (T := TX) (N := 4) hx hb hts inX hown hK hP 0 rfl rfl 2 (by decide) (hts _ wl_X_27) (fun _ h9 => h9) rfl d_X_make_35 ?_
      refine lv_icmp_ge (tgt := 46) hx hb d_X_make_38 (by decide) (fun c3 => ?_) (fun c3 => ?_)
      · replace c3 : nn ≤ b := (nI_leI (a := nn) (b := b) (by omega) (by omega)).mp c3
        refine lv_aload_n hx hb d_X_make_46 rfl (lv_at hl 0 rfl) ?_
        refine lv_iload_n hx hb d_X_make_47 rfl (lv_at hl 1 rfl) ?_
        refine lv_iload_n hx hb d_X_make_48 rfl (lv_at hl 2 rfl) ?_
        refine cc_Vv (wc := [(h0, .inr (0, [.ref h1, .ref h2, .int (nI nn), .int (nI p1)])), (h1, .inl (cA, 512, .inl M1)), (h2, .inl (cB, 512, .inl S1))]) (wr := []) (tys' := [(cA, .int), (cB, .int)]) ⟨hx, hb, hml, hown, hts⟩ hP hD hK hS hA [0, 1, 2] [] [0, 1] rfl rfl rfl (by decide) (by decide) (by decide) rfl (c_merge l dC dI h0 h1 h2 cA cB _ M1 S1 nn p1 k b g2 (by omega) (by omega) (by rw [hM1, decide_eq_true rfl, Bool.or_true]) (Or.inl (by omega))) (cwV 2 hts g_X_44 rfl rfl rfl (by decide +kernel) ⟨Nat.le_of_ble_eq_true rfl, Nat.le_of_ble_eq_true rfl⟩) 0 0 rfl rfl rfl rfl hl.1 rfl (Nat.le_of_ble_eq_true rfl) d_X_make_49 ⟨Nat.le_of_ble_eq_true rfl, Nat.le_of_ble_eq_true rfl⟩ (fun u H locs hw hP hD hS => ?_)
        replace hP : va_P (dC, dI) vwCl [(h0, .inr (0, [.ref h1, .ref h2, .int (nI nn), .int (nI u.2.2)])), (h1, .inl (cA, 512, .inl u.1)), (h2, .inl (cB, 512, .inl u.2.1))] H := hP
        replace hD : va_D A [(h0, .inr (0, [.ref h1, .ref h2, .int (nI nn), .int (nI u.2.2)])), (h1, .inl (cA, 512, .inl u.1)), (h2, .inl (cB, 512, .inl u.2.1))] := hD
        refine lv_aload_n hx hb d_X_make_52 rfl (lv_at hl 0 rfl) ?_
        refine va_get (D := (dC, dI)) (ci := 0) (v := .int (nI u.2.2)) (C := RX) (T := TX) (N := 4) hx hb hts inX hown hK hP 0 rfl rfl 3 (by decide) (hts _ wl_X_53) (fun _ h9 => h9) rfl d_X_make_53 ?_
        refine W.widen (k := 2) (n := 12) (by decide) (by decide) ?_
        refine vx_ret ?_
        exact W.iret (v := nI u.2.2) hx hb hr (fun t9 ht9 hW9 => ⟨⟨nI u.2.2, u, rfl, ⟨k, b, rfl, rfl, b1, b2, rfl, hw.1, z_make0 (by omega) hM1 hw.2⟩, by rw [ht9]; exact hP, va_K.moved hW9.alike hK, hD⟩, hS.F ht9⟩) hS.2.2 d_X_make_56
      · replace c3 : ¬ (nn ≤ b) := fun h9 => c3 ((nI_leI (a := nn) (b := b) (by omega) (by omega)).mpr h9)
        refine lv_aload_n hx hb d_X_make_41 rfl (lv_at hl 0 rfl) ?_
        refine lv_iload_n hx hb d_X_make_42 rfl (lv_at hl 2 rfl) ?_
        refine cc_Vv (wc := [(h0, .inr (0, [.ref h1, .ref h2, .int (nI nn), .int (nI p1)])), (h1, .inl (cA, 512, .inl M1)), (h2, .inl (cB, 512, .inl S1))]) (wr := []) (tys' := [(cA, .int), (cB, .int)]) ⟨hx, hb, hml, hown, hts⟩ hP hD hK hS hA [0, 1, 2] [] [0, 1] rfl rfl rfl (by decide) (by decide) (by decide) rfl (c_cutAt l dC dI h0 h1 h2 cA cB _ M1 S1 nn p1 b g2 (by omega)) (cwV 1 hts g_X_38 rfl rfl rfl (by decide +kernel) ⟨Nat.le_of_ble_eq_true rfl, Nat.le_of_ble_eq_true rfl⟩) 0 0 rfl rfl rfl rfl hl.1 rfl (Nat.le_of_ble_eq_true rfl) d_X_make_43 ⟨Nat.le_of_ble_eq_true rfl, Nat.le_of_ble_eq_true rfl⟩ (fun u H locs hw hP hD hS => ?_)
        replace hP : va_P (dC, dI) vwCl [(h0, .inr (0, [.ref h1, .ref h2, .int (nI nn), .int (nI u.2.2)])), (h1, .inl (cA, 512, .inl u.1)), (h2, .inl (cB, 512, .inl u.2.1))] H := hP
        replace hD : va_D A [(h0, .inr (0, [.ref h1, .ref h2, .int (nI nn), .int (nI u.2.2)])), (h1, .inl (cA, 512, .inl u.1)), (h2, .inl (cB, 512, .inl u.2.1))] := hD
        obtain ⟨M2, S2, p2⟩ := u
        obtain ⟨g3, hM2⟩ := hw
        dsimp only at g3 hM2
        replace hP : va_P (dC, dI) vwCl [(h0, .inr (0, [.ref h1, .ref h2, .int (nI nn), .int (nI p2)])), (h1, .inl (cA, 512, .inl M2)), (h2, .inl (cB, 512, .inl S2))] H := hP
        replace hD : va_D A [(h0, .inr (0, [.ref h1, .ref h2, .int (nI nn), .int (nI p2)])), (h1, .inl (cA, 512, .inl M2)), (h2, .inl (cB, 512, .inl S2))] := hD
        refine lv_aload_n hx hb d_X_make_46 rfl (lv_at hl 0 rfl) ?_
        refine lv_iload_n hx hb d_X_make_47 rfl (lv_at hl 1 rfl) ?_
        refine lv_iload_n hx hb d_X_make_48 rfl (lv_at hl 2 rfl) ?_
        refine cc_Vv (wc := [(h0, .inr (0, [.ref h1, .ref h2, .int (nI nn), .int (nI p2)])), (h1, .inl (cA, 512, .inl M2)), (h2, .inl (cB, 512, .inl S2))]) (wr := []) (tys' := [(cA, .int), (cB, .int)]) ⟨hx, hb, hml, hown, hts⟩ hP hD hK hS hA [0, 1, 2] [] [0, 1] rfl rfl rfl (by decide) (by decide) (by decide) rfl (c_merge l dC dI h0 h1 h2 cA cB _ M2 S2 nn p2 k b g3 (by omega) (by omega) (by rw [hM2, hM1, decide_eq_true rfl, Bool.or_true, Bool.true_or]) (Or.inr (by rw [hM2, decide_eq_true rfl, Bool.or_true]))) (cwV 2 hts g_X_44 rfl rfl rfl (by decide +kernel) ⟨Nat.le_of_ble_eq_true rfl, Nat.le_of_ble_eq_true rfl⟩) 0 0 rfl rfl rfl rfl hl.1 rfl (Nat.le_of_ble_eq_true rfl) d_X_make_49 ⟨Nat.le_of_ble_eq_true rfl, Nat.le_of_ble_eq_true rfl⟩ (fun u H locs hw hP hD hS => ?_)
        replace hP : va_P (dC, dI) vwCl [(h0, .inr (0, [.ref h1, .ref h2, .int (nI nn), .int (nI u.2.2)])), (h1, .inl (cA, 512, .inl u.1)), (h2, .inl (cB, 512, .inl u.2.1))] H := hP
        replace hD : va_D A [(h0, .inr (0, [.ref h1, .ref h2, .int (nI nn), .int (nI u.2.2)])), (h1, .inl (cA, 512, .inl u.1)), (h2, .inl (cB, 512, .inl u.2.1))] := hD
        refine lv_aload_n hx hb d_X_make_52 rfl (lv_at hl 0 rfl) ?_
        refine va_get (D := (dC, dI)) (ci := 0) (v := .int (nI u.2.2)) (C := RX) (T := TX) (N := 4) hx hb hts inX hown hK hP 0 rfl rfl 3 (by decide) (hts _ wl_X_53) (fun _ h9 => h9) rfl d_X_make_53 ?_
        refine W.widen (k := 2) (n := 12) (by decide) (by decide) ?_
        refine vx_ret ?_
        exact W.iret (v := nI u.2.2) hx hb hr (fun t9 ht9 hW9 => ⟨⟨nI u.2.2, u, rfl, ⟨k, b, rfl, rfl, b1, b2, rfl, hw.1, z_make1 (by omega) hM1 hM2 hw.2⟩, by rw [ht9]; exact hP, va_K.moved hW9.alike hK, hD⟩, hS.F ht9⟩) hS.2.2 d_X_make_56
    · obtain ⟨sa, hsa⟩ := hZ.1 (RX, 50, "no such end of a piece") (by decide +kernel)
      exact vx_throwS hx hb hlt (own := RX) (cls := "java/lang/IndexOutOfBoundsException") (names := ["java/lang/RuntimeException", "java/lang/Exception"]) hown (by decide +kernel) (by decide +kernel) (hts _ wl_X_48) (hts _ win_IndexOutOfBoundsException) hsa (vx_hat (L := vx_atS RX 52 "java/lang/IndexOutOfBoundsException" ["java/lang/RuntimeException", "java/lang/Exception"]) (fun w hw => hts w (wx_IndexOutOfBoundsException w hw)) wb_IndexOutOfBoundsException (fun w hw => va_Nw.use (zBad_on w hw) (hZ.2.1 w hw))) wg_IndexOutOfBoundsException hZ.2.2.1 hZ.2.2.2 hS (hl.1.trans hml.symm) d_X_make_18 d_X_make_21 d_X_make_22 d_X_make_24 d_X_make_27 (fun x9 h9 => (htab x9 h9).elim) (by decide) (by decide) (by decide) (by decide) hlocks (fun t9 hal hz9 hk9 => ⟨(), fun ⟨a, b, e1, e2, e3, e4⟩ => c2 (by rw [e2]; exact nI_le e4 (by omega)), ⟨rfl, va_P.kept hP (fun k9 q9 h9 => hk9 q9.1 (vx_lt hP h9)), va_K.moved hal hK, hD⟩, ⟨Nat.le_trans hS.1 hz9, fun q9 a1 a2 => (hk9 q9 (Nat.lt_of_lt_of_le a1 hS.1)).trans (hS.2.1 q9 a1 a2)⟩⟩) hS.2.2 (by decide) (by decide)
set_option maxHeartbeats 4000000 in
set_option maxRecDepth 100000 in
/-- space(x) -/
theorem c_space (l : Launch) (hlt : l.stackTraces = false) (dC : Nat → ClassId) (dI : Nat → Nat → Nat) (h0 h1 h2 : Nat) (cA cB : ClassId) (sz : Nat) (M S : Nat → Int32) (nn pp : Nat) (g0 : zCI nn pp M S) (x : Int32) : vx_Met l y_X_space ws_X_space ({ frames := 6, cells := 1, slots := 6, locals := 90 }) (va_Pc [.ref h0, .int x] (cx_P (dC, dI) vwCl (wX h0 h1 h2 cA cB M S (nI nn) (nI pp)) (tX cA cB) sz)) (va_Qi (S := Nat × (Nat → Int32) × (Nat → Int32)) (fun (r : Int32) (u : Nat × (Nat → Int32) × (Nat → Int32)) => x = nI u.1 ∧ 1 ≤ u.1 ∧ u.1 ≤ 16384 ∧ r = nI nn ∧ zCI u.1 1 u.2.1 u.2.2 ∧ ∀ j, j < 16384 → zm u.2.1 j = decide (j = 0)) (fun u t => cc_B (dC, dI) vwCl (tX cA cB) (va_A (wX h0 h1 h2 cA cB M S (nI nn) (nI pp)) sz) ((fun u : Nat × (Nat → Int32) × (Nat → Int32) => (wX h0 h1 h2 cA cB u.2.1 u.2.2 (nI u.1) (nI 1))) u) t) (va_A (wX h0 h1 h2 cA cB M S (nI nn) (nI pp)) sz)) (cx_X (dC, dI) vwCl (tX cA cB) (wX h0 h1 h2 cA cB M S (nI nn) (nI pp)) (va_A (wX h0 h1 h2 cA cB M S (nI nn) (nI pp)) sz) "java/lang/IllegalArgumentException" (¬ ∃ k, x = nI k ∧ 1 ≤ k ∧ k ≤ 16384)) 1 6 (va_A (wX h0 h1 h2 cA cB M S (nI nn) (nI pp)) sz) := by
  refine vx_ofW (cc := c_X_space) (maxL := 3) (ret := (some .int)) (by decide) rfl ?_
  intro p e s m args below meth c s₁ B hml htab hv
  obtain ⟨rfl, ⟨hsz, hP, hK, hD0⟩, hZ⟩ := hv
  have hx := B.exec
  have hb := B.bytes
  have hr := B.returns
  have hts : ∀ w ∈ zAll, w.before _ s = true := fun w h => atoms_spec (ws := ws_X_space) B.pre w (List.mem_cons_of_mem _ h)
  have hown : s.vm.findClass RX = some m.cls := findClass_of_methodNamed B.named
  have hlocks := B.notSynchronized
  subst hsz
  have hD := hD0.self (sz := s.heap.size)
  generalize hAe : va_A (wX h0 h1 h2 cA cB M S (nI nn) (nI pp)) s.heap.size = A at hD hZ ⊢
  have hA : ∀ q : Nat, s.heap.size ≤ q → A q := fun q h => by rw [← hAe]; exact Or.inr h
  have hS : va_S A s.heap s.heap [] := va_S.rf
  replace hP : va_P (dC, dI) vwCl [(h0, .inr (0, [.ref h1, .ref h2, .int (nI nn), .int (nI pp)])), (h1, .inl (cA, 512, .inl M)), (h2, .inl (cB, 512, .inl S))] s.heap := hP
  replace hD : va_D A [(h0, .inr (0, [.ref h1, .ref h2, .int (nI nn), .int (nI pp)])), (h1, .inl (cA, 512, .inl M)), (h2, .inl (cB, 512, .inl S))] := hD
  have hl := lv_entry ([.ref h0, .int x]) (n := 3) (Nat.le_of_ble_eq_true rfl)
  rw [lg_entry_eq]
  generalize (lg_sl ([.ref h0, .int x]) ++ List.replicate (3 - (lg_sl ([.ref h0, .int x])).length) Slot.unset).toArray = ls at hl ⊢
  replace hl : lv_has ls 3 [(0, .ref h0), (1, .int x)] := hl
  have gi := g0
  obtain ⟨i1, i2, i3, i4, i5, i6⟩ := gi
  have hpp : pp < 16385 := by (rw [i5]; have := zc_le (zm M) nn; omega)
  refine lv_iload_n hx hb d_X_space_0 rfl (lv_at hl 1 rfl) ?_
  refine lv_iconst (v := nI 1) hx hb d_X_space_1 (by decide) ?_
  refine lv_icmp_lt (tgt := 12) hx hb d_X_space_2 (by decide) (fun c1 => ?_) (fun c1 => ?_)
  · obtain ⟨sa, hsa⟩ := hZ.1 (RX, 22, "there are 1 to 16384 cells") (by decide +kernel)
    exact vx_throwS hx hb hlt (own := RX) (cls := "java/lang/IllegalArgumentException") (names := ["java/lang/RuntimeException", "java/lang/Exception"]) hown (by decide +kernel) (by decide +kernel) (hts _ wl_X_20) (hts _ win_IllegalArgumentException) hsa (vx_hat (L := vx_atS RX 24 "java/lang/IllegalArgumentException" ["java/lang/RuntimeException", "java/lang/Exception"]) (fun w hw => hts w (wx_IllegalArgumentException w hw)) wb_IllegalArgumentException (fun w hw => va_Nw.use (zBad_on w hw) (hZ.2.1 w hw))) wg_IllegalArgumentException hZ.2.2.1 hZ.2.2.2 hS (hl.1.trans hml.symm) d_X_space_12 d_X_space_15 d_X_space_16 d_X_space_18 d_X_space_21 (fun x9 h9 => (htab x9 h9).elim) (by decide) (by decide) (by decide) (by decide) hlocks (fun t9 hal hz9 hk9 => ⟨(), fun ⟨k, e1, e2, e3⟩ => by (rw [e1] at c1; exact nI_nlt e2 (by omega) c1), ⟨rfl, va_P.kept hP (fun k9 q9 h9 => hk9 q9.1 (vx_lt hP h9)), va_K.moved hal hK, hD⟩, ⟨Nat.le_trans hS.1 hz9, fun q9 a1 a2 => (hk9 q9 (Nat.lt_of_lt_of_le a1 hS.1)).trans (hS.2.1 q9 a1 a2)⟩⟩) hS.2.2 (by decide) (by decide)
  · refine lv_iload_n hx hb d_X_space_5 rfl (lv_at hl 1 rfl) ?_
    refine lv_sipush (v := nI 16384) hx hb d_X_space_6 (by decide) ?_
    refine lv_icmp_le (tgt := 22) hx hb d_X_space_9 (by decide) (fun c2 => ?_) (fun c2 => ?_)
    · obtain ⟨k, k1, k2, rfl⟩ := z_spof c1 c2
      refine lv_aload_n hx hb d_X_space_22 rfl (lv_at hl 0 rfl) ?_
      refine va_get (D := (dC, dI)) (ci := 0) (v := .int (nI nn)) (C := RX) (T := TX) (N := 4) hx hb hts inX hown hK hP 0 rfl rfl 2 (by decide) (hts _ wl_X_27) (fun _ h9 => h9) rfl d_X_space_23 ?_
      refine lv_istore_n (lv' := [(2, .int (nI nn)), (0, .ref h0), (1, .int (nI k))]) hx hb d_X_space_26 rfl hl (by decide) rfl (fun ls hl => ?_)
      refine lv_aload_n hx hb d_X_space_27 rfl (lv_at hl 1 rfl) ?_
      refine lv_iload_n hx hb d_X_space_28 rfl (lv_at hl 2 rfl) ?_
      refine cc_Vv (wc := [(h0, .inr (0, [.ref h1, .ref h2, .int (nI nn), .int (nI pp)])), (h1, .inl (cA, 512, .inl M)), (h2, .inl (cB, 512, .inl S))]) (wr := []) (tys' := [(cA, .int), (cB, .int)]) ⟨hx, hb, hml, hown, hts⟩ hP hD hK hS hA [0, 1, 2] [] [0, 1] rfl rfl rfl (by decide) (by decide) (by decide) rfl (c_layOnePiece l dC dI h0 h1 h2 cA cB _ M S (nI nn) (nI pp) k k1 k2) (cwV 1 hts g_X_16 rfl rfl rfl (by decide +kernel) ⟨Nat.le_of_ble_eq_true rfl, Nat.le_of_ble_eq_true rfl⟩) 0 0 rfl rfl rfl rfl hl.1 rfl (Nat.le_of_ble_eq_true rfl) d_X_space_29 ⟨Nat.le_of_ble_eq_true rfl, Nat.le_of_ble_eq_true rfl⟩ (fun u H locs hw hP hD hS => ?_)
      replace hP : va_P (dC, dI) vwCl [(h0, .inr (0, [.ref h1, .ref h2, .int (nI k), .int (nI 1)])), (h1, .inl (cA, 512, .inl u.1)), (h2, .inl (cB, 512, .inl u.2))] H := hP
      replace hD : va_D A [(h0, .inr (0, [.ref h1, .ref h2, .int (nI k), .int (nI 1)])), (h1, .inl (cA, 512, .inl u.1)), (h2, .inl (cB, 512, .inl u.2))] := hD
      refine lv_iload_n hx hb d_X_space_32 rfl (lv_at hl 0 rfl) ?_
      refine W.widen (k := 1) (n := 6) (by decide) (by decide) ?_
      refine vx_ret ?_
      exact W.iret (v := nI nn) hx hb hr (fun t9 ht9 hW9 => ⟨⟨nI nn, (k, u.1, u.2), rfl, ⟨rfl, k1, k2, rfl, hw⟩, by rw [ht9]; exact hP, va_K.moved hW9.alike hK, hD⟩, hS.F ht9⟩) hS.2.2 d_X_space_33
    · obtain ⟨sa, hsa⟩ := hZ.1 (RX, 22, "there are 1 to 16384 cells") (by decide +kernel)
      exact vx_throwS hx hb hlt (own := RX) (cls := "java/lang/IllegalArgumentException") (names := ["java/lang/RuntimeException", "java/lang/Exception"]) hown (by decide +kernel) (by decide +kernel) (hts _ wl_X_20) (hts _ win_IllegalArgumentException) hsa (vx_hat (L := vx_atS RX 24 "java/lang/IllegalArgumentException" ["java/lang/RuntimeException", "java/lang/Exception"]) (fun w hw => hts w (wx_IllegalArgumentException w hw)) wb_IllegalArgumentException (fun w hw => va_Nw.use (zBad_on w hw) (hZ.2.1 w hw))) wg_IllegalArgumentException hZ.2.2.1 hZ.2.2.2 hS (hl.1.trans hml.symm) d_X_space_12 d_X_space_15 d_X_space_16 d_X_space_18 d_X_space_21 (fun x9 h9 => (htab x9 h9).elim) (by decide) (by decide) (by decide) (by decide) hlocks (fun t9 hal hz9 hk9 => ⟨(), fun ⟨k, e1, e2, e3⟩ => c2 (by rw [e1]; exact nI_le e3 (by omega)), ⟨rfl, va_P.kept hP (fun k9 q9 h9 => hk9 q9.1 (vx_lt hP h9)), va_K.moved hal hK, hD⟩, ⟨Nat.le_trans hS.1 hz9, fun q9 a1 a2 => (hk9 q9 (Nat.lt_of_lt_of_le a1 hS.1)).trans (hS.2.1 q9 a1 a2)⟩⟩) hS.2.2 (by decide) (by decide)
set_option maxHeartbeats 4000000 in
set_option maxRecDepth 100000 in
/-- count(x) -/
theorem c_count (l : Launch) (hlt : l.stackTraces = false) (dC : Nat → ClassId) (dI : Nat → Nat → Nat) (h0 h1 h2 : Nat) (cA cB : ClassId) (sz : Nat) (M S : Nat → Int32) (nn pp : Nat) (g0 : zCI nn pp M S) (x : Int32) : vx_Met l y_X_count ws_X_count ({ frames := 6, cells := 1, slots := 6, locals := 93 }) (va_Pc [.ref h0, .int x] (cx_P (dC, dI) vwCl (wX h0 h1 h2 cA cB M S (nI nn) (nI pp)) (tX cA cB) sz)) (va_Qi (S := Unit) (fun (r : Int32) (u : Unit) => (x = nI 0 ∧ r = nI (nn)) ∨ (x = nI 1 ∧ r = nI ((nn + 31) / 32)) ∨ (x = nI 2 ∧ r = nI (pp)) ∨ (x = nI 3 ∧ r = nI (zF max (zm M) nn (pp - 1) (zn (zm M) nn 1) (zn (zm M) nn 1))) ∨ (x = nI 4 ∧ r = nI (zF min (zm M) nn (pp - 1) (zn (zm M) nn 1) (zn (zm M) nn 1)))) (fun u t => cc_B (dC, dI) vwCl (tX cA cB) (va_A (wX h0 h1 h2 cA cB M S (nI nn) (nI pp)) sz) ((fun _ : Unit => (wX h0 h1 h2 cA cB M S (nI nn) (nI pp))) u) t) (va_A (wX h0 h1 h2 cA cB M S (nI nn) (nI pp)) sz)) (cx_X (dC, dI) vwCl (tX cA cB) (wX h0 h1 h2 cA cB M S (nI nn) (nI pp)) (va_A (wX h0 h1 h2 cA cB M S (nI nn) (nI pp)) sz) "java/lang/IllegalArgumentException" (¬ (x = nI 0 ∨ x = nI 1 ∨ x = nI 2 ∨ x = nI 3 ∨ x = nI 4))) 1 6 (va_A (wX h0 h1 h2 cA cB M S (nI nn) (nI pp)) sz) := by
  refine vx_ofW (cc := c_X_count) (maxL := 2) (ret := (some .int)) (by decide) rfl ?_
  intro p e s m args below meth c s₁ B hml htab hv
  obtain ⟨rfl, ⟨hsz, hP, hK, hD0⟩, hZ⟩ := hv
  have hx := B.exec
  have hb := B.bytes
  have hr := B.returns
  have hts : ∀ w ∈ zAll, w.before _ s = true := fun w h => atoms_spec (ws := ws_X_count) B.pre w (List.mem_cons_of_mem _ h)
  have hown : s.vm.findClass RX = some m.cls := findClass_of_methodNamed B.named
  have hlocks := B.notSynchronized
  subst hsz
  have hD := hD0.self (sz := s.heap.size)
  generalize hAe : va_A (wX h0 h1 h2 cA cB M S (nI nn) (nI pp)) s.heap.size = A at hD hZ ⊢
  have hA : ∀ q : Nat, s.heap.size ≤ q → A q := fun q h => by rw [← hAe]; exact Or.inr h
  have hS : va_S A s.heap s.heap [] := va_S.rf
  replace hP : va_P (dC, dI) vwCl [(h0, .inr (0, [.ref h1, .ref h2, .int (nI nn), .int (nI pp)])), (h1, .inl (cA, 512, .inl M)), (h2, .inl (cB, 512, .inl S))] s.heap := hP
  replace hD : va_D A [(h0, .inr (0, [.ref h1, .ref h2, .int (nI nn), .int (nI pp)])), (h1, .inl (cA, 512, .inl M)), (h2, .inl (cB, 512, .inl S))] := hD
  have hl := lv_entry ([.ref h0, .int x]) (n := 2) (Nat.le_of_ble_eq_true rfl)
  rw [lg_entry_eq]
  generalize (lg_sl ([.ref h0, .int x]) ++ List.replicate (2 - (lg_sl ([.ref h0, .int x])).length) Slot.unset).toArray = ls at hl ⊢
  replace hl : lv_has ls 2 [(0, .ref h0), (1, .int x)] := hl
  have gi := g0
  obtain ⟨i1, i2, i3, i4, i5, i6⟩ := gi
  have hpp : pp < 16385 := by (rw [i5]; have := zc_le (zm M) nn; omega)
  refine lv_iload_n hx hb d_X_count_0 rfl (lv_at hl 1 rfl) ?_
  rcases z_sw5 x with rfl | rfl | rfl | rfl | rfl | hsw
  · refine lv_tableIn (tgt := 36) (off := 35) hx hb d_X_count_1 (by decide) (by decide) (by decide) (by decide) ?_
    refine lv_aload_n hx hb d_X_count_36 rfl (lv_at hl 0 rfl) ?_
    refine va_get (D := (dC, dI)) (ci := 0) (v := .int (nI nn)) (C := RX) (T := TX) (N := 4) hx hb hts inX hown hK hP 0 rfl rfl 2 (by decide) (hts _ wl_X_27) (fun _ h9 => h9) rfl d_X_count_37 ?_
    refine W.widen (k := 1) (n := 6) (by decide) (by decide) ?_
    refine vx_ret ?_
    exact W.iret (v := nI nn) hx hb hr (fun t9 ht9 hW9 => ⟨⟨nI nn, (), rfl, (Or.inl ⟨rfl, rfl⟩), by rw [ht9]; exact hP, va_K.moved hW9.alike hK, hD⟩, hS.F ht9⟩) hS.2.2 d_X_count_40
  · refine lv_tableIn (tgt := 41) (off := 40) hx hb d_X_count_1 (by decide) (by decide) (by decide) (by decide) ?_
    refine lv_aload_n hx hb d_X_count_41 rfl (lv_at hl 0 rfl) ?_
    refine cc_Vi (wc := [(h0, .inr (0, [.ref h1, .ref h2, .int (nI nn), .int (nI pp)])), (h1, .inl (cA, 512, .inl M)), (h2, .inl (cB, 512, .inl S))]) (wr := []) (tys' := [(cA, .int), (cB, .int)]) ⟨hx, hb, hml, hown, hts⟩ hP hD hK hS hA [0, 1, 2] [] [0, 1] rfl rfl rfl (by decide) (by decide) (by decide) rfl (c_cardCount l dC dI h0 h1 h2 cA cB _ M S nn (nI pp) i2) (cwV 0 hts g_X_64 rfl rfl rfl (by decide +kernel) ⟨Nat.le_of_ble_eq_true rfl, Nat.le_of_ble_eq_true rfl⟩) 0 0 rfl rfl rfl rfl hl.1 rfl (Nat.le_of_ble_eq_true rfl) d_X_count_42 ⟨Nat.le_of_ble_eq_true rfl, Nat.le_of_ble_eq_true rfl⟩ (fun r_9 u H locs hw hP hD hS => ?_)
    replace hP : va_P (dC, dI) vwCl [(h0, .inr (0, [.ref h1, .ref h2, .int (nI nn), .int (nI pp)])), (h1, .inl (cA, 512, .inl M)), (h2, .inl (cB, 512, .inl S))] H := hP
    replace hD : va_D A [(h0, .inr (0, [.ref h1, .ref h2, .int (nI nn), .int (nI pp)])), (h1, .inl (cA, 512, .inl M)), (h2, .inl (cB, 512, .inl S))] := hD
    subst hw
    refine W.widen (k := 1) (n := 6) (by decide) (by decide) ?_
    refine vx_ret ?_
    exact W.iret (v := nI ((nn + 31) / 32)) hx hb hr (fun t9 ht9 hW9 => ⟨⟨nI ((nn + 31) / 32), (), rfl, (Or.inr (Or.inl ⟨rfl, rfl⟩)), by rw [ht9]; exact hP, va_K.moved hW9.alike hK, hD⟩, hS.F ht9⟩) hS.2.2 d_X_count_45
  · refine lv_tableIn (tgt := 46) (off := 45) hx hb d_X_count_1 (by decide) (by decide) (by decide) (by decide) ?_
    refine lv_aload_n hx hb d_X_count_46 rfl (lv_at hl 0 rfl) ?_
    refine va_get (D := (dC, dI)) (ci := 0) (v := .int (nI pp)) (C := RX) (T := TX) (N := 4) hx hb hts inX hown hK hP 0 rfl rfl 3 (by decide) (hts _ wl_X_53) (fun _ h9 => h9) rfl d_X_count_47 ?_
    refine W.widen (k := 1) (n := 6) (by decide) (by decide) ?_
    refine vx_ret ?_
    exact W.iret (v := nI pp) hx hb hr (fun t9 ht9 hW9 => ⟨⟨nI pp, (), rfl, (Or.inr (Or.inr (Or.inl ⟨rfl, rfl⟩))), by rw [ht9]; exact hP, va_K.moved hW9.alike hK, hD⟩, hS.F ht9⟩) hS.2.2 d_X_count_50
  · refine lv_tableIn (tgt := 51) (off := 50) hx hb d_X_count_1 (by decide) (by decide) (by decide) (by decide) ?_
    refine lv_aload_n hx hb d_X_count_51 rfl (lv_at hl 0 rfl) ?_
    refine lv_iconst (v := nI 1) hx hb d_X_count_52 (by decide) ?_
    refine cc_Vi (wc := [(h0, .inr (0, [.ref h1, .ref h2, .int (nI nn), .int (nI pp)])), (h1, .inl (cA, 512, .inl M)), (h2, .inl (cB, 512, .inl S))]) (wr := []) (tys' := [(cA, .int), (cB, .int)]) ⟨hx, hb, hml, hown, hts⟩ hP hD hK hS hA [0, 1, 2] [] [0, 1] rfl rfl rfl (by decide) (by decide) (by decide) rfl (c_outermostSize l dC dI h0 h1 h2 cA cB _ M S nn pp true g0) (cwV 1 hts g_X_68 rfl rfl rfl (by decide +kernel) ⟨Nat.le_of_ble_eq_true rfl, Nat.le_of_ble_eq_true rfl⟩) 0 0 rfl rfl rfl rfl hl.1 rfl (Nat.le_of_ble_eq_true rfl) d_X_count_53 ⟨Nat.le_of_ble_eq_true rfl, Nat.le_of_ble_eq_true rfl⟩ (fun r_9 u H locs hw hP hD hS => ?_)
    replace hP : va_P (dC, dI) vwCl [(h0, .inr (0, [.ref h1, .ref h2, .int (nI nn), .int (nI pp)])), (h1, .inl (cA, 512, .inl M)), (h2, .inl (cB, 512, .inl S))] H := hP
    replace hD : va_D A [(h0, .inr (0, [.ref h1, .ref h2, .int (nI nn), .int (nI pp)])), (h1, .inl (cA, 512, .inl M)), (h2, .inl (cB, 512, .inl S))] := hD
    subst hw
    refine W.widen (k := 1) (n := 6) (by decide) (by decide) ?_
    refine vx_ret ?_
    exact W.iret (v := nI (zF max (zm M) nn (pp - 1) (zn (zm M) nn 1) (zn (zm M) nn 1))) hx hb hr (fun t9 ht9 hW9 => ⟨⟨nI (zF max (zm M) nn (pp - 1) (zn (zm M) nn 1) (zn (zm M) nn 1)), (), rfl, (Or.inr (Or.inr (Or.inr (Or.inl ⟨rfl, rfl⟩)))), by rw [ht9]; exact hP, va_K.moved hW9.alike hK, hD⟩, hS.F ht9⟩) hS.2.2 d_X_count_56
  · refine lv_tableIn (tgt := 57) (off := 56) hx hb d_X_count_1 (by decide) (by decide) (by decide) (by decide) ?_
    refine lv_aload_n hx hb d_X_count_57 rfl (lv_at hl 0 rfl) ?_
    refine lv_iconst (v := nI 0) hx hb d_X_count_58 (by decide) ?_
    refine cc_Vi (wc := [(h0, .inr (0, [.ref h1, .ref h2, .int (nI nn), .int (nI pp)])), (h1, .inl (cA, 512, .inl M)), (h2, .inl (cB, 512, .inl S))]) (wr := []) (tys' := [(cA, .int), (cB, .int)]) ⟨hx, hb, hml, hown, hts⟩ hP hD hK hS hA [0, 1, 2] [] [0, 1] rfl rfl rfl (by decide) (by decide) (by decide) rfl (c_outermostSize l dC dI h0 h1 h2 cA cB _ M S nn pp false g0) (cwV 1 hts g_X_68 rfl rfl rfl (by decide +kernel) ⟨Nat.le_of_ble_eq_true rfl, Nat.le_of_ble_eq_true rfl⟩) 0 0 rfl rfl rfl rfl hl.1 rfl (Nat.le_of_ble_eq_true rfl) d_X_count_59 ⟨Nat.le_of_ble_eq_true rfl, Nat.le_of_ble_eq_true rfl⟩ (fun r_9 u H locs hw hP hD hS => ?_)
    replace hP : va_P (dC, dI) vwCl [(h0, .inr (0, [.ref h1, .ref h2, .int (nI nn), .int (nI pp)])), (h1, .inl (cA, 512, .inl M)), (h2, .inl (cB, 512, .inl S))] H := hP
    replace hD : va_D A [(h0, .inr (0, [.ref h1, .ref h2, .int (nI nn), .int (nI pp)])), (h1, .inl (cA, 512, .inl M)), (h2, .inl (cB, 512, .inl S))] := hD
    subst hw
    refine W.widen (k := 1) (n := 6) (by decide) (by decide) ?_
    refine vx_ret ?_
    exact W.iret (v := nI (zF min (zm M) nn (pp - 1) (zn (zm M) nn 1) (zn (zm M) nn 1))) hx hb hr (fun t9 ht9 hW9 => ⟨⟨nI (zF min (zm M) nn (pp - 1) (zn (zm M) nn 1) (zn (zm M) nn 1)), (), rfl, (Or.inr (Or.inr (Or.inr (Or.inr ⟨rfl, rfl⟩)))), by rw [ht9]; exact hP, va_K.moved hW9.alike hK, hD⟩, hS.F ht9⟩) hS.2.2 d_X_count_62
  · refine lv_tableOut (tgt := 63) hx hb d_X_count_1 hsw (by decide) ?_
    obtain ⟨sa, hsa⟩ := hZ.1 (RX, 72, "there is no such count") (by decide +kernel)
    exact vx_throwS hx hb hlt (own := RX) (cls := "java/lang/IllegalArgumentException") (names := ["java/lang/RuntimeException", "java/lang/Exception"]) hown (by decide +kernel) (by decide +kernel) (hts _ wl_X_20) (hts _ win_IllegalArgumentException) hsa (vx_hat (L := vx_atS RX 24 "java/lang/IllegalArgumentException" ["java/lang/RuntimeException", "java/lang/Exception"]) (fun w hw => hts w (wx_IllegalArgumentException w hw)) wb_IllegalArgumentException (fun w hw => va_Nw.use (zBad_on w hw) (hZ.2.1 w hw))) wg_IllegalArgumentException hZ.2.2.1 hZ.2.2.2 hS (hl.1.trans hml.symm) d_X_count_63 d_X_count_66 d_X_count_67 d_X_count_69 d_X_count_72 (fun x9 h9 => (htab x9 h9).elim) (by decide) (by decide) (by decide) (by decide) hlocks (fun t9 hal hz9 hk9 => ⟨(), z_sw5n hsw, ⟨rfl, va_P.kept hP (fun k9 q9 h9 => hk9 q9.1 (vx_lt hP h9)), va_K.moved hal hK, hD⟩, ⟨Nat.le_trans hS.1 hz9, fun q9 a1 a2 => (hk9 q9 (Nat.lt_of_lt_of_le a1 hS.1)).trans (hS.2.1 q9 a1 a2)⟩⟩) hS.2.2 (by decide) (by decide)
set_option maxHeartbeats 4000000 in
set_option maxRecDepth 100000 in
/-- StartTable(): 1024 cells, one piece -/
theorem c_init (l : Launch) (dC : Nat → ClassId) (dI : Nat → Nat → Nat) (h0 : Nat) (sz : Nat) : Met l y_X_init ws_X_init ({ frames := 2, cells := 2, slots := 1024, locals := 44 }) (va_Pc [.ref h0] (cc_P (dC, dI) vwCl ([(h0, .inr (0, [.null, .null, .int 0, .int 0]))] : va_W) [] sz)) (va_Qv (S := Nat × Nat × ClassId × ClassId × (Nat → Int32) × (Nat → Int32)) (fun u => zCI 1024 1 u.2.2.2.2.1 u.2.2.2.2.2 ∧ ∀ j, j < 16384 → zm u.2.2.2.2.1 j = decide (j = 0)) (fun u t => cc_B (dC, dI) vwCl (tX u.2.2.1 u.2.2.2.1) (va_A ([(h0, .inr (0, [.null, .null, .int 0, .int 0]))] : va_W) sz) (wX h0 u.1 u.2.1 u.2.2.1 u.2.2.2.1 u.2.2.2.2.1 u.2.2.2.2.2 (nI 1024) (nI 1)) t) (va_A ([(h0, .inr (0, [.null, .null, .int 0, .int 0]))] : va_W) sz)) 2 1024 (va_A ([(h0, .inr (0, [.null, .null, .int 0, .int 0]))] : va_W) sz) := by
  refine Met.ofW (cc := c_X_init) (maxL := 1) (ret := none) (by decide) rfl ?_
  intro p e s m args below meth c s₁ B hml hv
  obtain ⟨rfl, hsz, hP, hK, hD0⟩ := hv
  have hx := B.exec
  have hb := B.bytes
  have hr := B.returns
  have hts : ∀ w ∈ zAll, w.before _ s = true := fun w h => atoms_spec (ws := ws_X_init) B.pre w (List.mem_cons_of_mem _ h)
  have hown : s.vm.findClass RX = some m.cls := findClass_of_methodNamed B.named
  have hlocks := B.notSynchronized
  have hin : meth.name = "<init>" := (name_of_methodNamed B.named B.method).1
  subst hsz
  have hD := hD0.self (sz := s.heap.size)
  generalize hAe : va_A ([(h0, .inr (0, [.null, .null, .int 0, .int 0]))] : va_W) s.heap.size = A at hD ⊢
  have hA : ∀ q : Nat, s.heap.size ≤ q → A q := fun q h => by rw [← hAe]; exact Or.inr h
  have hS : va_S A s.heap s.heap [] := va_S.rf
  replace hP : va_P (dC, dI) vwCl [(h0, .inr (0, [.null, .null, .int 0, .int 0]))] s.heap := hP
  replace hD : va_D A [(h0, .inr (0, [.null, .null, .int 0, .int 0]))] := hD
  have hl := lv_entry ([.ref h0]) (n := 1) (Nat.le_of_ble_eq_true rfl)
  rw [lg_entry_eq]
  generalize (lg_sl ([.ref h0]) ++ List.replicate (1 - (lg_sl ([.ref h0])).length) Slot.unset).toArray = ls at hl ⊢
  replace hl : lv_has ls 1 [(0, .ref h0)] := hl
  refine lv_aload_n hx hb d_X_init_0 rfl (lv_at hl 0 rfl) ?_
  refine W.objInit hx hb hown (hts _ wl_X_3) (hts _ wim_obj) (hts _ wc_obj) rfl (by rw [hml]; exact hl.1) rfl d_X_init_1 (Nat.le_of_ble_eq_true rfl) (Nat.le_of_ble_eq_true rfl) ?_
  refine W.eq (g2 := F0 m 4 ls []) rfl ?_
  refine lv_aload_n hx hb d_X_init_4 rfl (lv_at hl 0 rfl) ?_
  refine lv_sipush (v := nI 512) hx hb d_X_init_5 (by decide) ?_
  refine va_newa (atype := .int) (N' := 512) (a0 := (512, .inl (fun _ => 0))) (ty := .int) (n := nI 512) hx hb (hts _ wac_int) rfl hK hP hD hS hA (fun _ => rfl) (by decide) (by decide) (by decide) (by decide) (by decide) d_X_init_8 (fun h1 cA H hK hP hD hS => ?_)
  replace hK : va_K (dC, dI) vwCl [(cA, .int)] s := hK
  replace hP : va_P (dC, dI) vwCl [(h0, .inr (0, [.null, .null, .int 0, .int 0])), (h1, .inl (cA, 512, .inl (fun _ => 0)))] H := hP
  replace hD : va_D A [(h0, .inr (0, [.null, .null, .int 0, .int 0])), (h1, .inl (cA, 512, .inl (fun _ => 0)))] := hD
  refine W.widen (k := 1) (n := 512) (by decide) (by decide) ?_
  refine va_putF (D := (dC, dI)) (ci := 0) (v := .ref h1) (ty := .array .int) (C := RX) (T := TX) (N := 4) hx hb hts inX tyX tyX_ok nmX hown hK hP hD hS 0 rfl rfl 0 (by decide) (hts _ wl_X_9) (fun _ h9 => h9) rfl hin rfl (by decide +kernel) rfl rfl (Nat.le_of_ble_eq_true rfl) d_X_init_10 (fun H locs hP hD hS => ?_)
  replace hP : va_P (dC, dI) vwCl [(h0, .inr (0, [.ref h1, .null, .int 0, .int 0])), (h1, .inl (cA, 512, .inl (fun _ => 0)))] H := hP
  replace hD : va_D A [(h0, .inr (0, [.ref h1, .null, .int 0, .int 0])), (h1, .inl (cA, 512, .inl (fun _ => 0)))] := hD
  refine lv_aload_n hx hb d_X_init_13 rfl (lv_at hl 0 rfl) ?_
  refine lv_sipush (v := nI 512) hx hb d_X_init_14 (by decide) ?_
  refine va_newa (atype := .int) (N' := 512) (a0 := (512, .inl (fun _ => 0))) (ty := .int) (n := nI 512) hx hb (hts _ wac_int) rfl hK hP hD hS hA (fun _ => rfl) (by decide) (by decide) (by decide) (by decide) (by decide) d_X_init_17 (fun h2 cB H hK hP hD hS => ?_)
  replace hK : va_K (dC, dI) vwCl [(cA, .int), (cB, .int)] s := hK
  replace hP : va_P (dC, dI) vwCl [(h0, .inr (0, [.ref h1, .null, .int 0, .int 0])), (h1, .inl (cA, 512, .inl (fun _ => 0))), (h2, .inl (cB, 512, .inl (fun _ => 0)))] H := hP
  replace hD : va_D A [(h0, .inr (0, [.ref h1, .null, .int 0, .int 0])), (h1, .inl (cA, 512, .inl (fun _ => 0))), (h2, .inl (cB, 512, .inl (fun _ => 0)))] := hD
  refine W.widen (k := 2) (n := 1024) (by decide) (by decide) ?_
  refine va_putF (D := (dC, dI)) (ci := 0) (v := .ref h2) (ty := .array .int) (C := RX) (T := TX) (N := 4) hx hb hts inX tyX tyX_ok nmX hown hK hP hD hS 0 rfl rfl 1 (by decide) (hts _ wl_X_13) (fun _ h9 => h9) rfl hin rfl (by decide +kernel) rfl rfl (Nat.le_of_ble_eq_true rfl) d_X_init_19 (fun H locs hP hD hS => ?_)
  replace hP : va_P (dC, dI) vwCl [(h0, .inr (0, [.ref h1, .ref h2, .int 0, .int 0])), (h1, .inl (cA, 512, .inl (fun _ => 0))), (h2, .inl (cB, 512, .inl (fun _ => 0)))] H := hP
  replace hD : va_D A [(h0, .inr (0, [.ref h1, .ref h2, .int 0, .int 0])), (h1, .inl (cA, 512, .inl (fun _ => 0))), (h2, .inl (cB, 512, .inl (fun _ => 0)))] := hD
  refine lv_aload_n hx hb d_X_init_22 rfl (lv_at hl 0 rfl) ?_
  refine lv_sipush (v := nI 1024) hx hb d_X_init_23 (by decide) ?_
  refine cc_Vv (wc := [(h0, .inr (0, [.ref h1, .ref h2, .int 0, .int 0])), (h1, .inl (cA, 512, .inl (fun _ => 0))), (h2, .inl (cB, 512, .inl (fun _ => 0)))]) (wr := []) (tys' := [(cA, .int), (cB, .int)]) ⟨hx, hb, hml, hown, hts⟩ hP hD hK hS hA [0, 1, 2] [] [0, 1] rfl rfl rfl (by decide) (by decide) (by decide) rfl (c_layOnePiece l dC dI h0 h1 h2 cA cB _ (fun _ => 0) (fun _ => 0) 0 0 1024 (by decide) (by decide)) (cwV 1 hts g_X_16 rfl rfl rfl (by decide +kernel) ⟨Nat.le_of_ble_eq_true rfl, Nat.le_of_ble_eq_true rfl⟩) 0 0 rfl rfl rfl rfl hl.1 rfl (Nat.le_of_ble_eq_true rfl) d_X_init_26 ⟨Nat.le_of_ble_eq_true rfl, Nat.le_of_ble_eq_true rfl⟩ (fun u H locs hw hP hD hS => ?_)
  replace hP : va_P (dC, dI) vwCl [(h0, .inr (0, [.ref h1, .ref h2, .int (nI 1024), .int (nI 1)])), (h1, .inl (cA, 512, .inl u.1)), (h2, .inl (cB, 512, .inl u.2))] H := hP
  replace hD : va_D A [(h0, .inr (0, [.ref h1, .ref h2, .int (nI 1024), .int (nI 1)])), (h1, .inl (cA, 512, .inl u.1)), (h2, .inl (cB, 512, .inl u.2))] := hD
  refine W.widen (k := 2) (n := 1024) (by decide) (by decide) ?_
  exact W.vret hx hb hr (fun t9 ht9 hW9 => ⟨⟨(h1, h2, cA, cB, u.1, u.2), rfl, hw, by rw [ht9]; exact hP, va_K.moved hW9.alike hK, hD⟩, hS.F ht9⟩) hS.2.2 d_X_init_29
end
section
/-! THE REFERENCE'S STATE: begins as an array of 0 and 1 -/
abbrev wM (h0 h1 : Nat) (cA : ClassId) (th n : Int32) (F : Nat → Int32) : va_W := [(h0, .inr (1, [.int th, .int n, .ref h1])), (h1, .inl (cA, 16385, .inl F))]
abbrev tM (cA : ClassId) : List (ClassId × FieldType) := [(cA, .boolean)]
def zv (b : Bool) : Int32 := if b then nI 1 else nI 0
theorem zv_f {b : Bool} (h : zv b = 0) : b = false := by
  cases b
  · rfl
  · exact absurd h (by decide)
theorem zv_t {b : Bool} (h : ¬ zv b = 0) : b = true := by
  cases b
  · exact absurd rfl h
  · rfl
def MF (F : Nat → Int32) (G : Nat → Bool) : Prop := ∀ j, j < 16385 → F j = zv (G j)
def upG (G : Nat → Bool) (i : Nat) (b : Bool) : Nat → Bool := fun j => if j = i then b else G j
theorem upG_eq {G : Nat → Bool} {i : Nat} {b : Bool} : upG G i b i = b := if_pos rfl
theorem upG_ne {G : Nat → Bool} {i j : Nat} {b : Bool} (h : j ≠ i) : upG G i b j = G j := if_neg h
theorem MF_up {F : Nat → Int32} {G : Nat → Bool} {i : Nat} {b : Bool} (h : MF F G) : MF (upd F i (zv b)) (upG G i b) := fun j hj => by
  by_cases q : j = i
  · rw [q, pk_us, upG_eq]
  · rw [pk_un q, upG_ne q, h j hj]
theorem MF_init : MF (upd (upd (fun _ => 0) 0 (nI 1)) 1024 (nI 1)) (fun j => decide (j = 0 ∨ j = 1024)) := fun j hj => by
  by_cases q : j = 1024
  · rw [q, pk_us]; rfl
  · rw [pk_un q]
    by_cases z : j = 0
    · rw [z, pk_us]; rfl
    · rw [pk_un z]
      show (0 : Int32) = zv (decide (j = 0 ∨ j = 1024))
      rw [decide_eq_false (by omega)]
      rfl
theorem z_inof2 {x : Int32} {n : Nat} (h1 : ¬ x < 0) (h2 : ¬ nI n ≤ x) (hn : n < 2147483648) : ∃ k, k < n ∧ x = nI k := by
  obtain ⟨j, hj, rfl⟩ := nI_of h1
  refine ⟨j, ?_, rfl⟩
  rcases Nat.lt_or_ge j n with q | q
  · exact q
  · exact absurd (nI_le q (by omega)) h2
theorem z_spof2 {x : Int32} (h1 : ¬ x < nI 1) (h2 : ¬ nI 16384 < x) : ∃ k, 1 ≤ k ∧ k ≤ 16384 ∧ x = nI k := by
  refine z_spof h1 ?_
  rw [Int32.le_iff_toInt_le]
  rw [Int32.lt_iff_toInt_lt] at h2
  omega
theorem z_mkof2 {z : Int32} {k n : Nat} (h1 : ¬ z ≤ nI k) (h2 : ¬ nI n < z) (hn : k < n ∧ n < 2147483648) : ∃ b, k < b ∧ b ≤ n ∧ z = nI b := by
  refine z_mkof h1 ?_ hn
  rw [Int32.le_iff_toInt_le]
  rw [Int32.lt_iff_toInt_lt] at h2
  omega
theorem z_lt0 {x : Int32} (h : x < 0) : x.toInt < 0 := by
  rw [Int32.lt_iff_toInt_lt, Int32.toInt_zero] at h
  exact h
theorem z_gt4 {x : Int32} (h : nI 4 < x) : 4 < x.toInt := by
  rw [Int32.lt_iff_toInt_lt, nI_toInt (by decide)] at h
  exact h
theorem z_nsw {x : Int32} (h1 : ¬ x < 0) (h2 : ¬ nI 4 < x) : ¬ (x.toInt < 0 ∨ 4 < x.toInt) := by
  rw [Int32.lt_iff_toInt_lt, Int32.toInt_zero] at h1
  rw [Int32.lt_iff_toInt_lt, nI_toInt (by decide)] at h2
  have e : ((4 : Nat) : Int) = 4 := rfl
  omega
end
section
set_option maxHeartbeats 4000000 in
set_option maxRecDepth 100000 in
/-- thrown() -/
theorem cM_thrown (l : Launch) (dC : Nat → ClassId) (dI : Nat → Nat → Nat) (h0 h1 : Nat) (cA : ClassId) (sz : Nat) (F : Nat → Int32) (G : Nat → Bool) (nn : Nat) (th : Int32) (hF : MF F G)  : Met l y_M_thrown ws_M_thrown ({ frames := 0, cells := 0, slots := 0, locals := 0 }) (va_Pc [.ref h0] (cc_P (dC, dI) vwCl (wM h0 h1 cA th (nI nn) F) (tM cA) sz)) (va_Qi (S := Unit) (fun (r : Int32) (u : Unit) => r = th) (fun u t => cc_B (dC, dI) vwCl (tM cA) (va_A (wM h0 h1 cA th (nI nn) F) sz) ((fun _ : Unit => (wM h0 h1 cA th (nI nn) F)) u) t) (va_A (wM h0 h1 cA th (nI nn) F) sz)) 0 0 (va_A (wM h0 h1 cA th (nI nn) F) sz) := by
  refine Met.ofW (cc := c_M_thrown) (maxL := 1) (ret := (some .int)) (by decide) rfl ?_
  intro p e s m args below meth c s₁ B hml hv
  obtain ⟨rfl, hsz, hP, hK, hD0⟩ := hv
  have hx := B.exec
  have hb := B.bytes
  have hr := B.returns
  have hts : ∀ w ∈ zAll, w.before _ s = true := fun w h => atoms_spec (ws := ws_M_thrown) B.pre w (List.mem_cons_of_mem _ h)
  have hown : s.vm.findClass RM = some m.cls := findClass_of_methodNamed B.named
  have hlocks := B.notSynchronized
  subst hsz
  have hD := hD0.self (sz := s.heap.size)
  generalize hAe : va_A (wM h0 h1 cA th (nI nn) F) s.heap.size = A at hD ⊢
  have hA : ∀ q : Nat, s.heap.size ≤ q → A q := fun q h => by rw [← hAe]; exact Or.inr h
  have hS : va_S A s.heap s.heap [] := va_S.rf
  replace hP : va_P (dC, dI) vwCl [(h0, .inr (1, [.int th, .int (nI nn), .ref h1])), (h1, .inl (cA, 16385, .inl F))] s.heap := hP
  replace hD : va_D A [(h0, .inr (1, [.int th, .int (nI nn), .ref h1])), (h1, .inl (cA, 16385, .inl F))] := hD
  have hl := lv_entry ([.ref h0]) (n := 1) (Nat.le_of_ble_eq_true rfl)
  rw [lg_entry_eq]
  generalize (lg_sl ([.ref h0]) ++ List.replicate (1 - (lg_sl ([.ref h0])).length) Slot.unset).toArray = ls at hl ⊢
  replace hl : lv_has ls 1 [(0, .ref h0)] := hl
  refine lv_aload_n hx hb d_M_thrown_0 rfl (lv_at hl 0 rfl) ?_
  refine va_get (D := (dC, dI)) (ci := 1) (v := .int th) (C := RM) (T := TM) (N := 3) hx hb hts inM hown hK hP 0 rfl rfl 0 (by decide) (hts _ wl_M_17) (fun _ h9 => h9) rfl d_M_thrown_1 ?_
  exact W.iret (v := th) hx hb hr (fun t9 ht9 hW9 => ⟨⟨th, (), rfl, rfl, by rw [ht9]; exact hP, va_K.moved hW9.alike hK, hD⟩, hS.F ht9⟩) hS.2.2 d_M_thrown_4
set_option maxHeartbeats 4000000 in
set_option maxRecDepth 100000 in
/-- cards() -/
theorem cM_cards (l : Launch) (dC : Nat → ClassId) (dI : Nat → Nat → Nat) (h0 h1 : Nat) (cA : ClassId) (sz : Nat) (F : Nat → Int32) (G : Nat → Bool) (nn : Nat) (th : Int32) (hF : MF F G) (g1 : nn ≤ 16384) : Met l y_M_cards ws_M_cards ({ frames := 0, cells := 0, slots := 0, locals := 0 }) (va_Pc [.ref h0] (cc_P (dC, dI) vwCl (wM h0 h1 cA th (nI nn) F) (tM cA) sz)) (va_Qi (S := Unit) (fun (r : Int32) (u : Unit) => r = nI ((nn + 31) / 32)) (fun u t => cc_B (dC, dI) vwCl (tM cA) (va_A (wM h0 h1 cA th (nI nn) F) sz) ((fun _ : Unit => (wM h0 h1 cA th (nI nn) F)) u) t) (va_A (wM h0 h1 cA th (nI nn) F) sz)) 0 0 (va_A (wM h0 h1 cA th (nI nn) F) sz) := by
  refine Met.ofW (cc := c_M_cards) (maxL := 1) (ret := (some .int)) (by decide) rfl ?_
  intro p e s m args below meth c s₁ B hml hv
  obtain ⟨rfl, hsz, hP, hK, hD0⟩ := hv
  have hx := B.exec
  have hb := B.bytes
  have hr := B.returns
  have hts : ∀ w ∈ zAll, w.before _ s = true := fun w h => atoms_spec (ws := ws_M_cards) B.pre w (List.mem_cons_of_mem _ h)
  have hown : s.vm.findClass RM = some m.cls := findClass_of_methodNamed B.named
  have hlocks := B.notSynchronized
  subst hsz
  have hD := hD0.self (sz := s.heap.size)
  generalize hAe : va_A (wM h0 h1 cA th (nI nn) F) s.heap.size = A at hD ⊢
  have hA : ∀ q : Nat, s.heap.size ≤ q → A q := fun q h => by rw [← hAe]; exact Or.inr h
  have hS : va_S A s.heap s.heap [] := va_S.rf
  replace hP : va_P (dC, dI) vwCl [(h0, .inr (1, [.int th, .int (nI nn), .ref h1])), (h1, .inl (cA, 16385, .inl F))] s.heap := hP
  replace hD : va_D A [(h0, .inr (1, [.int th, .int (nI nn), .ref h1])), (h1, .inl (cA, 16385, .inl F))] := hD
  have hl := lv_entry ([.ref h0]) (n := 1) (Nat.le_of_ble_eq_true rfl)
  rw [lg_entry_eq]
  generalize (lg_sl ([.ref h0]) ++ List.replicate (1 - (lg_sl ([.ref h0])).length) Slot.unset).toArray = ls at hl ⊢
  replace hl : lv_has ls 1 [(0, .ref h0)] := hl
  refine lv_aload_n hx hb d_M_cards_0 rfl (lv_at hl 0 rfl) ?_
  refine va_get (D := (dC, dI)) (ci := 1) (v := .int (nI nn)) (C := RM) (T := TM) (N := 3) hx hb hts inM hown hK hP 0 rfl rfl 1 (by decide) (hts _ wl_M_7) (fun _ h9 => h9) rfl d_M_cards_1 ?_
  refine lv_bipush (v := nI 31) hx hb d_M_cards_4 (by decide) ?_
  refine lv_iadd hx hb d_M_cards_6 ?_
  refine lv_topi (nm_r (show _ = nI (nn + 31) from nI_add _ _) ?_)
  refine lv_bipush (v := nI 32) hx hb d_M_cards_7 (by decide) ?_
  refine lv_idiv hx hb d_M_cards_9 (by decide) ?_
  refine lv_topi (nm_r (show _ = nI ((nn + 31) / 32) from pk_div (by omega) (by omega) (by omega)) ?_)
  exact W.iret (v := nI ((nn + 31) / 32)) hx hb hr (fun t9 ht9 hW9 => ⟨⟨nI ((nn + 31) / 32), (), rfl, rfl, by rw [ht9]; exact hP, va_K.moved hW9.alike hK, hD⟩, hS.F ht9⟩) hS.2.2 d_M_cards_10
set_option maxHeartbeats 4000000 in
set_option maxRecDepth 100000 in
/-- goes(b) -/
theorem cM_goes (l : Launch) (dC : Nat → ClassId) (dI : Nat → Nat → Nat) (h0 h1 : Nat) (cA : ClassId) (sz : Nat) (F : Nat → Int32) (G : Nat → Bool) (nn : Nat) (th : Int32) (hF : MF F G) (b : Bool) : Met l y_M_goes ws_M_goes ({ frames := 0, cells := 0, slots := 0, locals := 0 }) (va_Pc [.ref h0, .int (zv b)] (cc_P (dC, dI) vwCl (wM h0 h1 cA th (nI nn) F) (tM cA) sz)) (va_Qi (S := Unit) (fun (r : Int32) (u : Unit) => r = zv b) (fun u t => cc_B (dC, dI) vwCl (tM cA) (va_A (wM h0 h1 cA th (nI nn) F) sz) ((fun _ : Unit => (wM h0 h1 cA (zv (!b)) (nI nn) F)) u) t) (va_A (wM h0 h1 cA th (nI nn) F) sz)) 0 0 (va_A (wM h0 h1 cA th (nI nn) F) sz) := by
  refine Met.ofW (cc := c_M_goes) (maxL := 2) (ret := (some .boolean)) (by decide) rfl ?_
  intro p e s m args below meth c s₁ B hml hv
  obtain ⟨rfl, hsz, hP, hK, hD0⟩ := hv
  have hx := B.exec
  have hb := B.bytes
  have hr := B.returns
  have hts : ∀ w ∈ zAll, w.before _ s = true := fun w h => atoms_spec (ws := ws_M_goes) B.pre w (List.mem_cons_of_mem _ h)
  have hown : s.vm.findClass RM = some m.cls := findClass_of_methodNamed B.named
  have hlocks := B.notSynchronized
  subst hsz
  have hD := hD0.self (sz := s.heap.size)
  generalize hAe : va_A (wM h0 h1 cA th (nI nn) F) s.heap.size = A at hD ⊢
  have hA : ∀ q : Nat, s.heap.size ≤ q → A q := fun q h => by rw [← hAe]; exact Or.inr h
  have hS : va_S A s.heap s.heap [] := va_S.rf
  replace hP : va_P (dC, dI) vwCl [(h0, .inr (1, [.int th, .int (nI nn), .ref h1])), (h1, .inl (cA, 16385, .inl F))] s.heap := hP
  replace hD : va_D A [(h0, .inr (1, [.int th, .int (nI nn), .ref h1])), (h1, .inl (cA, 16385, .inl F))] := hD
  have hl := lv_entry ([.ref h0, .int (zv b)]) (n := 2) (Nat.le_of_ble_eq_true rfl)
  rw [lg_entry_eq]
  generalize (lg_sl ([.ref h0, .int (zv b)]) ++ List.replicate (2 - (lg_sl ([.ref h0, .int (zv b)])).length) Slot.unset).toArray = ls at hl ⊢
  replace hl : lv_has ls 2 [(0, .ref h0), (1, .int (zv b))] := hl
  refine lv_aload_n hx hb d_M_goes_0 rfl (lv_at hl 0 rfl) ?_
  refine lv_iload_n hx hb d_M_goes_1 rfl (lv_at hl 1 rfl) ?_
  refine lv_if_eq (tgt := 9) hx hb d_M_goes_2 (by decide) (fun c1 => ?_) (fun c1 => ?_)
  · have eb : b = false := zv_f c1
    subst eb
    refine lv_iconst (v := nI 1) hx hb d_M_goes_9 (by decide) ?_
    refine va_put (D := (dC, dI)) (ci := 1) (v := .int (nI 1)) (ty := .int) (C := RM) (T := TM) (N := 3) hx hb hts inM tyM tyM_ok nmM hown hK hP hD hS 0 rfl rfl 0 (by decide) (hts _ wl_M_17) (fun _ h9 => h9) rfl (by decide +kernel) rfl rfl (Nat.le_of_ble_eq_true rfl) d_M_goes_10 (fun H locs hP hD hS => ?_)
    replace hP : va_P (dC, dI) vwCl [(h0, .inr (1, [.int (nI 1), .int (nI nn), .ref h1])), (h1, .inl (cA, 16385, .inl F))] H := hP
    replace hD : va_D A [(h0, .inr (1, [.int (nI 1), .int (nI nn), .ref h1])), (h1, .inl (cA, 16385, .inl F))] := hD
    refine lv_iload_n hx hb d_M_goes_13 rfl (lv_at hl 1 rfl) ?_
    exact W.zret (v := zv false) hx hb hr rfl (fun t9 ht9 hW9 => ⟨⟨zv false, (), rfl, rfl, by rw [ht9]; exact hP, va_K.moved hW9.alike hK, hD⟩, hS.F ht9⟩) hS.2.2 d_M_goes_14
  · have eb : b = true := zv_t c1
    subst eb
    refine lv_iconst (v := nI 0) hx hb d_M_goes_5 (by decide) ?_
    refine lv_goto (tgt := 10) hx hb d_M_goes_6 (by decide) ?_
    refine va_put (D := (dC, dI)) (ci := 1) (v := .int (nI 0)) (ty := .int) (C := RM) (T := TM) (N := 3) hx hb hts inM tyM tyM_ok nmM hown hK hP hD hS 0 rfl rfl 0 (by decide) (hts _ wl_M_17) (fun _ h9 => h9) rfl (by decide +kernel) rfl rfl (Nat.le_of_ble_eq_true rfl) d_M_goes_10 (fun H locs hP hD hS => ?_)
    replace hP : va_P (dC, dI) vwCl [(h0, .inr (1, [.int (nI 0), .int (nI nn), .ref h1])), (h1, .inl (cA, 16385, .inl F))] H := hP
    replace hD : va_D A [(h0, .inr (1, [.int (nI 0), .int (nI nn), .ref h1])), (h1, .inl (cA, 16385, .inl F))] := hD
    refine lv_iload_n hx hb d_M_goes_13 rfl (lv_at hl 1 rfl) ?_
    exact W.zret (v := zv true) hx hb hr rfl (fun t9 ht9 hW9 => ⟨⟨zv true, (), rfl, rfl, by rw [ht9]; exact hP, va_K.moved hW9.alike hK, hD⟩, hS.F ht9⟩) hS.2.2 d_M_goes_14
set_option maxHeartbeats 4000000 in
set_option maxRecDepth 100000 in
/-- M_isCell -/
theorem cM_isCell (l : Launch) (dC : Nat → ClassId) (dI : Nat → Nat → Nat) (h0 h1 : Nat) (cA : ClassId) (sz : Nat) (F : Nat → Int32) (G : Nat → Bool) (nn : Nat) (th : Int32) (hF : MF F G) (x : Int32) (g1 : nn ≤ 16384) : Met l y_M_isCell ws_M_isCell ({ frames := 0, cells := 0, slots := 0, locals := 0 }) (va_Pc [.ref h0, .int x] (cc_P (dC, dI) vwCl (wM h0 h1 cA th (nI nn) F) (tM cA) sz)) (va_Qi (S := Bool) (fun (r : Int32) (u : Bool) => r = zv u ∧ (u = true → ∃ k, k < nn ∧ x = nI k) ∧ (u = false → ¬ ∃ k, k < nn ∧ x = nI k)) (fun u t => cc_B (dC, dI) vwCl (tM cA) (va_A (wM h0 h1 cA th (nI nn) F) sz) ((fun _ : Bool => (wM h0 h1 cA th (nI nn) F)) u) t) (va_A (wM h0 h1 cA th (nI nn) F) sz)) 0 0 (va_A (wM h0 h1 cA th (nI nn) F) sz) := by
  refine Met.ofW (cc := c_M_isCell) (maxL := 2) (ret := (some .boolean)) (by decide) rfl ?_
  intro p e s m args below meth c s₁ B hml hv
  obtain ⟨rfl, hsz, hP, hK, hD0⟩ := hv
  have hx := B.exec
  have hb := B.bytes
  have hr := B.returns
  have hts : ∀ w ∈ zAll, w.before _ s = true := fun w h => atoms_spec (ws := ws_M_isCell) B.pre w (List.mem_cons_of_mem _ h)
  have hown : s.vm.findClass RM = some m.cls := findClass_of_methodNamed B.named
  have hlocks := B.notSynchronized
  subst hsz
  have hD := hD0.self (sz := s.heap.size)
  generalize hAe : va_A (wM h0 h1 cA th (nI nn) F) s.heap.size = A at hD ⊢
  have hA : ∀ q : Nat, s.heap.size ≤ q → A q := fun q h => by rw [← hAe]; exact Or.inr h
  have hS : va_S A s.heap s.heap [] := va_S.rf
  replace hP : va_P (dC, dI) vwCl [(h0, .inr (1, [.int th, .int (nI nn), .ref h1])), (h1, .inl (cA, 16385, .inl F))] s.heap := hP
  replace hD : va_D A [(h0, .inr (1, [.int th, .int (nI nn), .ref h1])), (h1, .inl (cA, 16385, .inl F))] := hD
  have hl := lv_entry ([.ref h0, .int x]) (n := 2) (Nat.le_of_ble_eq_true rfl)
  rw [lg_entry_eq]
  generalize (lg_sl ([.ref h0, .int x]) ++ List.replicate (2 - (lg_sl ([.ref h0, .int x])).length) Slot.unset).toArray = ls at hl ⊢
  replace hl : lv_has ls 2 [(0, .ref h0), (1, .int x)] := hl
  refine lv_iload_n hx hb d_M_isCell_0 rfl (lv_at hl 1 rfl) ?_
  refine lv_if_lt (tgt := 16) hx hb d_M_isCell_1 (by decide) (fun c1 => ?_) (fun c1 => ?_)
  · refine lv_iconst (v := nI 0) hx hb d_M_isCell_16 (by decide) ?_
    exact W.zret (v := nI 0) hx hb hr rfl (fun t9 ht9 hW9 => ⟨⟨nI 0, false, rfl, ⟨rfl, fun h => (by cases h), fun _ ⟨k, k1, k2⟩ => nI_pos (n := k) (by omega) (by rw [← k2]; exact c1)⟩, by rw [ht9]; exact hP, va_K.moved hW9.alike hK, hD⟩, hS.F ht9⟩) hS.2.2 d_M_isCell_17
  · refine lv_iload_n hx hb d_M_isCell_4 rfl (lv_at hl 1 rfl) ?_
    refine lv_aload_n hx hb d_M_isCell_5 rfl (lv_at hl 0 rfl) ?_
    refine va_get (D := (dC, dI)) (ci := 1) (v := .int (nI nn)) (C := RM) (T := TM) (N := 3) hx hb hts inM hown hK hP 0 rfl rfl 1 (by decide) (hts _ wl_M_7) (fun _ h9 => h9) rfl d_M_isCell_6 ?_
    refine lv_icmp_ge (tgt := 16) hx hb d_M_isCell_9 (by decide) (fun c2 => ?_) (fun c2 => ?_)
    · refine lv_iconst (v := nI 0) hx hb d_M_isCell_16 (by decide) ?_
      exact W.zret (v := nI 0) hx hb hr rfl (fun t9 ht9 hW9 => ⟨⟨nI 0, false, rfl, ⟨rfl, fun h => (by cases h), fun _ ⟨k, k1, k2⟩ => nI_ge (a := k) (b := nn) k1 (by omega) (by rw [← k2]; exact c2)⟩, by rw [ht9]; exact hP, va_K.moved hW9.alike hK, hD⟩, hS.F ht9⟩) hS.2.2 d_M_isCell_17
    · refine lv_iconst (v := nI 1) hx hb d_M_isCell_12 (by decide) ?_
      refine lv_goto (tgt := 17) hx hb d_M_isCell_13 (by decide) ?_
      exact W.zret (v := nI 1) hx hb hr rfl (fun t9 ht9 hW9 => ⟨⟨nI 1, true, rfl, ⟨rfl, fun _ => z_inof2 c1 c2 (by omega), fun h => (by cases h)⟩, by rw [ht9]; exact hP, va_K.moved hW9.alike hK, hD⟩, hS.F ht9⟩) hS.2.2 d_M_isCell_17
set_option maxHeartbeats 4000000 in
set_option maxRecDepth 100000 in
/-- M_isCard -/
theorem cM_isCard (l : Launch) (dC : Nat → ClassId) (dI : Nat → Nat → Nat) (h0 h1 : Nat) (cA : ClassId) (sz : Nat) (F : Nat → Int32) (G : Nat → Bool) (nn : Nat) (th : Int32) (hF : MF F G) (x : Int32) (g1 : nn ≤ 16384) : Met l y_M_isCard ws_M_isCard ({ frames := 1, cells := 0, slots := 0, locals := 20 }) (va_Pc [.ref h0, .int x] (cc_P (dC, dI) vwCl (wM h0 h1 cA th (nI nn) F) (tM cA) sz)) (va_Qi (S := Bool) (fun (r : Int32) (u : Bool) => r = zv u ∧ (u = true → ∃ k, k < (nn + 31) / 32 ∧ x = nI k) ∧ (u = false → ¬ ∃ k, k < (nn + 31) / 32 ∧ x = nI k)) (fun u t => cc_B (dC, dI) vwCl (tM cA) (va_A (wM h0 h1 cA th (nI nn) F) sz) ((fun _ : Bool => (wM h0 h1 cA th (nI nn) F)) u) t) (va_A (wM h0 h1 cA th (nI nn) F) sz)) 0 0 (va_A (wM h0 h1 cA th (nI nn) F) sz) := by
  refine Met.ofW (cc := c_M_isCard) (maxL := 2) (ret := (some .boolean)) (by decide) rfl ?_
  intro p e s m args below meth c s₁ B hml hv
  obtain ⟨rfl, hsz, hP, hK, hD0⟩ := hv
  have hx := B.exec
  have hb := B.bytes
  have hr := B.returns
  have hts : ∀ w ∈ zAll, w.before _ s = true := fun w h => atoms_spec (ws := ws_M_isCard) B.pre w (List.mem_cons_of_mem _ h)
  have hown : s.vm.findClass RM = some m.cls := findClass_of_methodNamed B.named
  have hlocks := B.notSynchronized
  subst hsz
  have hD := hD0.self (sz := s.heap.size)
  generalize hAe : va_A (wM h0 h1 cA th (nI nn) F) s.heap.size = A at hD ⊢
  have hA : ∀ q : Nat, s.heap.size ≤ q → A q := fun q h => by rw [← hAe]; exact Or.inr h
  have hS : va_S A s.heap s.heap [] := va_S.rf
  replace hP : va_P (dC, dI) vwCl [(h0, .inr (1, [.int th, .int (nI nn), .ref h1])), (h1, .inl (cA, 16385, .inl F))] s.heap := hP
  replace hD : va_D A [(h0, .inr (1, [.int th, .int (nI nn), .ref h1])), (h1, .inl (cA, 16385, .inl F))] := hD
  have hl := lv_entry ([.ref h0, .int x]) (n := 2) (Nat.le_of_ble_eq_true rfl)
  rw [lg_entry_eq]
  generalize (lg_sl ([.ref h0, .int x]) ++ List.replicate (2 - (lg_sl ([.ref h0, .int x])).length) Slot.unset).toArray = ls at hl ⊢
  replace hl : lv_has ls 2 [(0, .ref h0), (1, .int x)] := hl
  refine lv_iload_n hx hb d_M_isCard_0 rfl (lv_at hl 1 rfl) ?_
  refine lv_if_lt (tgt := 16) hx hb d_M_isCard_1 (by decide) (fun c1 => ?_) (fun c1 => ?_)
  · refine lv_iconst (v := nI 0) hx hb d_M_isCard_16 (by decide) ?_
    exact W.zret (v := nI 0) hx hb hr rfl (fun t9 ht9 hW9 => ⟨⟨nI 0, false, rfl, ⟨rfl, fun h => (by cases h), fun _ ⟨k, k1, k2⟩ => nI_pos (n := k) (by omega) (by rw [← k2]; exact c1)⟩, by rw [ht9]; exact hP, va_K.moved hW9.alike hK, hD⟩, hS.F ht9⟩) hS.2.2 d_M_isCard_17
  · refine lv_iload_n hx hb d_M_isCard_4 rfl (lv_at hl 1 rfl) ?_
    refine lv_aload_n hx hb d_M_isCard_5 rfl (lv_at hl 0 rfl) ?_
    refine cc_Vi (wc := [(h0, .inr (1, [.int th, .int (nI nn), .ref h1])), (h1, .inl (cA, 16385, .inl F))]) (wr := []) (tys' := [(cA, .boolean)]) ⟨hx, hb, hml, hown, hts⟩ hP hD hK hS hA [0, 1] [] [0] rfl rfl rfl (by decide) (by decide) (by decide) rfl (cM_cards l dC dI h0 h1 cA _ F G nn th hF g1) (cwV 0 hts g_M_20 rfl rfl rfl (by decide +kernel) ⟨Nat.le_of_ble_eq_true rfl, Nat.le_of_ble_eq_true rfl⟩) 0 1 rfl rfl rfl rfl hl.1 rfl (Nat.le_of_ble_eq_true rfl) d_M_isCard_6 ⟨Nat.le_of_ble_eq_true rfl, Nat.le_of_ble_eq_true rfl⟩ (fun r_9 u H locs hw hP hD hS => ?_)
    replace hP : va_P (dC, dI) vwCl [(h0, .inr (1, [.int th, .int (nI nn), .ref h1])), (h1, .inl (cA, 16385, .inl F))] H := hP
    replace hD : va_D A [(h0, .inr (1, [.int th, .int (nI nn), .ref h1])), (h1, .inl (cA, 16385, .inl F))] := hD
    subst hw
    refine lv_icmp_ge (tgt := 16) hx hb d_M_isCard_9 (by decide) (fun c2 => ?_) (fun c2 => ?_)
    · refine lv_iconst (v := nI 0) hx hb d_M_isCard_16 (by decide) ?_
      exact W.zret (v := nI 0) hx hb hr rfl (fun t9 ht9 hW9 => ⟨⟨nI 0, false, rfl, ⟨rfl, fun h => (by cases h), fun _ ⟨k, k1, k2⟩ => nI_ge (a := k) (b := (nn + 31) / 32) k1 (by omega) (by rw [← k2]; exact c2)⟩, by rw [ht9]; exact hP, va_K.moved hW9.alike hK, hD⟩, hS.F ht9⟩) hS.2.2 d_M_isCard_17
    · refine lv_iconst (v := nI 1) hx hb d_M_isCard_12 (by decide) ?_
      refine lv_goto (tgt := 17) hx hb d_M_isCard_13 (by decide) ?_
      exact W.zret (v := nI 1) hx hb hr rfl (fun t9 ht9 hW9 => ⟨⟨nI 1, true, rfl, ⟨rfl, fun _ => z_inof2 c1 c2 (by omega), fun h => (by cases h)⟩, by rw [ht9]; exact hP, va_K.moved hW9.alike hK, hD⟩, hS.F ht9⟩) hS.2.2 d_M_isCard_17
set_option maxHeartbeats 4000000 in
set_option maxRecDepth 100000 in
/-- from(k) -/
theorem cM_from (l : Launch) (dC : Nat → ClassId) (dI : Nat → Nat → Nat) (h0 h1 : Nat) (cA : ClassId) (sz : Nat) (F : Nat → Int32) (G : Nat → Bool) (nn : Nat) (th : Int32) (hF : MF F G) (k : Nat) (g0 : k < 16385) (g1 : G 0 = true) : Met l y_M_from ws_M_from ({ frames := 0, cells := 0, slots := 0, locals := 0 }) (va_Pc [.ref h0, .int (nI k)] (cc_P (dC, dI) vwCl (wM h0 h1 cA th (nI nn) F) (tM cA) sz)) (va_Qi (S := Unit) (fun (r : Int32) (u : Unit) => r = nI (zb G k)) (fun u t => cc_B (dC, dI) vwCl (tM cA) (va_A (wM h0 h1 cA th (nI nn) F) sz) ((fun _ : Unit => (wM h0 h1 cA th (nI nn) F)) u) t) (va_A (wM h0 h1 cA th (nI nn) F) sz)) 0 0 (va_A (wM h0 h1 cA th (nI nn) F) sz) := by
  refine Met.ofW (cc := c_M_from) (maxL := 3) (ret := (some .int)) (by decide) rfl ?_
  intro p e s m args below meth c s₁ B hml hv
  obtain ⟨rfl, hsz, hP, hK, hD0⟩ := hv
  have hx := B.exec
  have hb := B.bytes
  have hr := B.returns
  have hts : ∀ w ∈ zAll, w.before _ s = true := fun w h => atoms_spec (ws := ws_M_from) B.pre w (List.mem_cons_of_mem _ h)
  have hown : s.vm.findClass RM = some m.cls := findClass_of_methodNamed B.named
  have hlocks := B.notSynchronized
  subst hsz
  have hD := hD0.self (sz := s.heap.size)
  generalize hAe : va_A (wM h0 h1 cA th (nI nn) F) s.heap.size = A at hD ⊢
  have hA : ∀ q : Nat, s.heap.size ≤ q → A q := fun q h => by rw [← hAe]; exact Or.inr h
  have hS : va_S A s.heap s.heap [] := va_S.rf
  replace hP : va_P (dC, dI) vwCl [(h0, .inr (1, [.int th, .int (nI nn), .ref h1])), (h1, .inl (cA, 16385, .inl F))] s.heap := hP
  replace hD : va_D A [(h0, .inr (1, [.int th, .int (nI nn), .ref h1])), (h1, .inl (cA, 16385, .inl F))] := hD
  have hl := lv_entry ([.ref h0, .int (nI k)]) (n := 3) (Nat.le_of_ble_eq_true rfl)
  rw [lg_entry_eq]
  generalize (lg_sl ([.ref h0, .int (nI k)]) ++ List.replicate (3 - (lg_sl ([.ref h0, .int (nI k)])).length) Slot.unset).toArray = ls at hl ⊢
  replace hl : lv_has ls 3 [(0, .ref h0), (1, .int (nI k))] := hl
  refine lv_iload_n hx hb d_M_from_0 rfl (lv_at hl 1 rfl) ?_
  refine lv_istore_n (lv' := [(2, .int (nI k)), (0, .ref h0), (1, .int (nI k))]) hx hb d_M_from_1 rfl hl (by decide) rfl (fun ls hl => ?_)
  refine cc_from hP hD hS (fun H locs hP hD hS => ?_)
  obtain ⟨ci, e_ci⟩ : ∃ ci : Nat, ci = k := ⟨_, rfl⟩
  replace hl : lv_has ls 3 [(0, .ref h0), (1, .int (nI k)), (2, .int (nI ci))] := by (subst e_ci; exact lv_sub hl [1, 2, 0] rfl)
  have k1 : ci ≤ k := by (subst e_ci; exact Nat.le_refl _)
  have k2 : ∀ j, ci < j → j ≤ k → G j = false := by (subst e_ci; exact fun j a b => absurd a (by omega))
  clear e_ci
  obtain ⟨f9, hf9⟩ : ∃ f9 : Nat, ci < f9 := ⟨_, Nat.lt_succ_self _⟩
  induction f9 generalizing ls H locs ci with
  | zero => exact absurd hf9 (Nat.not_lt_zero _)
  | succ f9 ih =>
    refine lv_aload_n hx hb d_M_from_2 rfl (lv_at hl 0 rfl) ?_
    refine va_get (D := (dC, dI)) (ci := 1) (v := .ref h1) (C := RM) (T := TM) (N := 3) hx hb hts inM hown hK hP 0 rfl rfl 2 (by decide) (hts _ wl_M_13) (fun _ h9 => h9) rfl d_M_from_3 ?_
    refine lv_iload_n hx hb d_M_from_6 rfl (lv_at hl 2 rfl) ?_
    refine va_zald hx hb hK hP 1 0 rfl rfl (vp_in_nI (by omega) (by decide)) d_M_from_7 ?_
    refine lv_topi (nm_r (show _ = F ci from by rw [nI_clamp (by omega)]) ?_)
    refine lv_if_ne (tgt := 17) hx hb d_M_from_8 (by decide) (fun c1 => ?_) (fun c1 => ?_)
    · have gt : G ci = true := zv_t (by rw [← hF ci (by omega)]; exact c1)
      refine lv_iload_n hx hb d_M_from_17 rfl (lv_at hl 2 rfl) ?_
      exact W.iret (v := nI ci) hx hb hr (fun t9 ht9 hW9 => ⟨⟨nI ci, (), rfl, congrArg nI (zb_uniq k1 (Or.inr gt) k2).symm, by rw [ht9]; exact hP, va_K.moved hW9.alike hK, hD⟩, hS.F ht9⟩) hS.2.2 d_M_from_18
    · have gf : G ci = false := zv_f (by rw [← hF ci (by omega)]; exact c1)
      have h0c : 0 < ci := Nat.pos_of_ne_zero (fun h9 => by rw [h9, g1] at gf; cases gf)
      have k3 : ∀ j, ci - 1 < j → j ≤ k → G j = false := fun j a b => by
        by_cases q : j = ci
        · rw [q]; exact gf
        · exact k2 j (by omega) b
      refine lv_iinc (v := nI (ci - 1)) (lv' := [(2, .int (nI (ci - 1))), (0, .ref h0), (1, .int (nI k))]) hx hb d_M_from_11 hl (k := 2) rfl (by rw [show Int32.ofInt (-1) = (-1 : Int32) from by decide]; exact sb_m1 (by omega)) (by decide) rfl (fun ls hl => ?_)
      refine lv_goto (tgt := 2) hx hb d_M_from_14 (by decide) ?_
      apply ih (ls := ls) (H := H) (locs := locs) (ci := ci - 1) <;> first | assumption | exact lv_sub hl [1, 2, 0] rfl | omega
set_option maxHeartbeats 4000000 in
set_option maxRecDepth 100000 in
/-- behind(k) -/
theorem cM_behind (l : Launch) (dC : Nat → ClassId) (dI : Nat → Nat → Nat) (h0 h1 : Nat) (cA : ClassId) (sz : Nat) (F : Nat → Int32) (G : Nat → Bool) (nn : Nat) (th : Int32) (hF : MF F G) (k : Nat) (g0 : k < nn) (g1 : nn ≤ 16384) (g2 : G nn = true) : Met l y_M_behind ws_M_behind ({ frames := 0, cells := 0, slots := 0, locals := 0 }) (va_Pc [.ref h0, .int (nI k)] (cc_P (dC, dI) vwCl (wM h0 h1 cA th (nI nn) F) (tM cA) sz)) (va_Qi (S := Unit) (fun (r : Int32) (u : Unit) => r = nI (zn G nn (k + 1))) (fun u t => cc_B (dC, dI) vwCl (tM cA) (va_A (wM h0 h1 cA th (nI nn) F) sz) ((fun _ : Unit => (wM h0 h1 cA th (nI nn) F)) u) t) (va_A (wM h0 h1 cA th (nI nn) F) sz)) 0 0 (va_A (wM h0 h1 cA th (nI nn) F) sz) := by
  refine Met.ofW (cc := c_M_behind) (maxL := 3) (ret := (some .int)) (by decide) rfl ?_
  intro p e s m args below meth c s₁ B hml hv
  obtain ⟨rfl, hsz, hP, hK, hD0⟩ := hv
  have hx := B.exec
  have hb := B.bytes
  have hr := B.returns
  have hts : ∀ w ∈ zAll, w.before _ s = true := fun w h => atoms_spec (ws := ws_M_behind) B.pre w (List.mem_cons_of_mem _ h)
  have hown : s.vm.findClass RM = some m.cls := findClass_of_methodNamed B.named
  have hlocks := B.notSynchronized
  subst hsz
  have hD := hD0.self (sz := s.heap.size)
  generalize hAe : va_A (wM h0 h1 cA th (nI nn) F) s.heap.size = A at hD ⊢
  have hA : ∀ q : Nat, s.heap.size ≤ q → A q := fun q h => by rw [← hAe]; exact Or.inr h
  have hS : va_S A s.heap s.heap [] := va_S.rf
  replace hP : va_P (dC, dI) vwCl [(h0, .inr (1, [.int th, .int (nI nn), .ref h1])), (h1, .inl (cA, 16385, .inl F))] s.heap := hP
  replace hD : va_D A [(h0, .inr (1, [.int th, .int (nI nn), .ref h1])), (h1, .inl (cA, 16385, .inl F))] := hD
  have hl := lv_entry ([.ref h0, .int (nI k)]) (n := 3) (Nat.le_of_ble_eq_true rfl)
  rw [lg_entry_eq]
  generalize (lg_sl ([.ref h0, .int (nI k)]) ++ List.replicate (3 - (lg_sl ([.ref h0, .int (nI k)])).length) Slot.unset).toArray = ls at hl ⊢
  replace hl : lv_has ls 3 [(0, .ref h0), (1, .int (nI k))] := hl
  refine lv_iload_n hx hb d_M_behind_0 rfl (lv_at hl 1 rfl) ?_
  refine lv_iconst (v := nI 1) hx hb d_M_behind_1 (by decide) ?_
  refine lv_iadd hx hb d_M_behind_2 ?_
  refine lv_topi (nm_r (show _ = nI (k + 1) from nI_add _ _) ?_)
  refine lv_istore_n (lv' := [(2, .int (nI (k + 1))), (0, .ref h0), (1, .int (nI k))]) hx hb d_M_behind_3 rfl hl (by decide) rfl (fun ls hl => ?_)
  refine cc_from hP hD hS (fun H locs hP hD hS => ?_)
  obtain ⟨ci, e_ci⟩ : ∃ ci : Nat, ci = k + 1 := ⟨_, rfl⟩
  replace hl : lv_has ls 3 [(0, .ref h0), (1, .int (nI k)), (2, .int (nI ci))] := by (subst e_ci; exact lv_sub hl [1, 2, 0] rfl)
  have k0 : k + 1 ≤ ci := by (subst e_ci; exact Nat.le_refl _)
  have k1 : ci ≤ nn := by (subst e_ci; exact g0)
  have k2 : ∀ j, k + 1 ≤ j → j < ci → G j = false := by (subst e_ci; exact fun j a b => absurd a (by omega))
  clear e_ci
  obtain ⟨f9, hf9⟩ : ∃ f9 : Nat, nn - ci < f9 := ⟨_, Nat.lt_succ_self _⟩
  induction f9 generalizing ls H locs ci with
  | zero => exact absurd hf9 (Nat.not_lt_zero _)
  | succ f9 ih =>
    refine lv_aload_n hx hb d_M_behind_4 rfl (lv_at hl 0 rfl) ?_
    refine va_get (D := (dC, dI)) (ci := 1) (v := .ref h1) (C := RM) (T := TM) (N := 3) hx hb hts inM hown hK hP 0 rfl rfl 2 (by decide) (hts _ wl_M_13) (fun _ h9 => h9) rfl d_M_behind_5 ?_
    refine lv_iload_n hx hb d_M_behind_8 rfl (lv_at hl 2 rfl) ?_
    refine va_zald hx hb hK hP 1 0 rfl rfl (vp_in_nI (by omega) (by decide)) d_M_behind_9 ?_
    refine lv_topi (nm_r (show _ = F ci from by rw [nI_clamp (by omega)]) ?_)
    refine lv_if_ne (tgt := 19) hx hb d_M_behind_10 (by decide) (fun c1 => ?_) (fun c1 => ?_)
    · have gt : G ci = true := zv_t (by rw [← hF ci (by omega)]; exact c1)
      refine lv_iload_n hx hb d_M_behind_19 rfl (lv_at hl 2 rfl) ?_
      exact W.iret (v := nI ci) hx hb hr (fun t9 ht9 hW9 => ⟨⟨nI ci, (), rfl, congrArg nI (zn_uniq k0 k1 (Or.inr gt) k2).symm, by rw [ht9]; exact hP, va_K.moved hW9.alike hK, hD⟩, hS.F ht9⟩) hS.2.2 d_M_behind_20
    · have gf : G ci = false := zv_f (by rw [← hF ci (by omega)]; exact c1)
      have hlt : ci < nn := Nat.lt_of_le_of_ne k1 (fun h9 => by rw [h9, g2] at gf; cases gf)
      have k3 : ∀ j, k + 1 ≤ j → j < ci + 1 → G j = false := fun j a b => by
        by_cases q : j = ci
        · rw [q]; exact gf
        · exact k2 j a (by omega)
      refine lv_iinc (v := nI (ci + 1)) (lv' := [(2, .int (nI (ci + 1))), (0, .ref h0), (1, .int (nI k))]) hx hb d_M_behind_13 hl (k := 2) rfl (nI_1 _) (by decide) rfl (fun ls hl => ?_)
      refine lv_goto (tgt := 4) hx hb d_M_behind_16 (by decide) ?_
      apply ih (ls := ls) (H := H) (locs := locs) (ci := ci + 1) <;> first | assumption | exact lv_sub hl [1, 2, 0] rfl | omega
set_option maxHeartbeats 4000000 in
set_option maxRecDepth 100000 in
/-- pieces() -/
theorem cM_pieces (l : Launch) (dC : Nat → ClassId) (dI : Nat → Nat → Nat) (h0 h1 : Nat) (cA : ClassId) (sz : Nat) (F : Nat → Int32) (G : Nat → Bool) (nn : Nat) (th : Int32) (hF : MF F G) (g1 : nn ≤ 16384) : Met l y_M_pieces ws_M_pieces ({ frames := 0, cells := 0, slots := 0, locals := 0 }) (va_Pc [.ref h0] (cc_P (dC, dI) vwCl (wM h0 h1 cA th (nI nn) F) (tM cA) sz)) (va_Qi (S := Unit) (fun (r : Int32) (u : Unit) => r = nI (zc G nn)) (fun u t => cc_B (dC, dI) vwCl (tM cA) (va_A (wM h0 h1 cA th (nI nn) F) sz) ((fun _ : Unit => (wM h0 h1 cA th (nI nn) F)) u) t) (va_A (wM h0 h1 cA th (nI nn) F) sz)) 0 0 (va_A (wM h0 h1 cA th (nI nn) F) sz) := by
  refine Met.ofW (cc := c_M_pieces) (maxL := 3) (ret := (some .int)) (by decide) rfl ?_
  intro p e s m args below meth c s₁ B hml hv
  obtain ⟨rfl, hsz, hP, hK, hD0⟩ := hv
  have hx := B.exec
  have hb := B.bytes
  have hr := B.returns
  have hts : ∀ w ∈ zAll, w.before _ s = true := fun w h => atoms_spec (ws := ws_M_pieces) B.pre w (List.mem_cons_of_mem _ h)
  have hown : s.vm.findClass RM = some m.cls := findClass_of_methodNamed B.named
  have hlocks := B.notSynchronized
  subst hsz
  have hD := hD0.self (sz := s.heap.size)
  generalize hAe : va_A (wM h0 h1 cA th (nI nn) F) s.heap.size = A at hD ⊢
  have hA : ∀ q : Nat, s.heap.size ≤ q → A q := fun q h => by rw [← hAe]; exact Or.inr h
  have hS : va_S A s.heap s.heap [] := va_S.rf
  replace hP : va_P (dC, dI) vwCl [(h0, .inr (1, [.int th, .int (nI nn), .ref h1])), (h1, .inl (cA, 16385, .inl F))] s.heap := hP
  replace hD : va_D A [(h0, .inr (1, [.int th, .int (nI nn), .ref h1])), (h1, .inl (cA, 16385, .inl F))] := hD
  have hl := lv_entry ([.ref h0]) (n := 3) (Nat.le_of_ble_eq_true rfl)
  rw [lg_entry_eq]
  generalize (lg_sl ([.ref h0]) ++ List.replicate (3 - (lg_sl ([.ref h0])).length) Slot.unset).toArray = ls at hl ⊢
  replace hl : lv_has ls 3 [(0, .ref h0)] := hl
  refine lv_iconst (v := nI 0) hx hb d_M_pieces_0 (by decide) ?_
  refine lv_istore_n (lv' := [(1, .int (nI 0)), (0, .ref h0)]) hx hb d_M_pieces_1 rfl hl (by decide) rfl (fun ls hl => ?_)
  refine lv_iconst (v := nI 0) hx hb d_M_pieces_2 (by decide) ?_
  refine lv_istore_n (lv' := [(2, .int (nI 0)), (1, .int (nI 0)), (0, .ref h0)]) hx hb d_M_pieces_3 rfl hl (by decide) rfl (fun ls hl => ?_)
  refine cc_from hP hD hS (fun H locs hP hD hS => ?_)
  obtain ⟨ci, e_ci⟩ : ∃ ci : Nat, ci = 0 := ⟨_, rfl⟩
  obtain ⟨q, e_q⟩ : ∃ q : Nat, q = 0 := ⟨_, rfl⟩
  replace hl : lv_has ls 3 [(0, .ref h0), (1, .int (nI q)), (2, .int (nI ci))] := by (subst e_ci; subst e_q; exact lv_sub hl [2, 1, 0] rfl)
  have k1 : ci ≤ nn := by (subst e_ci; subst e_q; exact Nat.zero_le _)
  have k2 : q = zc G ci := by (subst e_ci; subst e_q; rfl)
  clear e_ci e_q
  obtain ⟨f9, hf9⟩ : ∃ f9 : Nat, nn - ci < f9 := ⟨_, Nat.lt_succ_self _⟩
  induction f9 generalizing ls H locs ci q with
  | zero => exact absurd hf9 (Nat.not_lt_zero _)
  | succ f9 ih =>
    have kq := zc_le G ci
    refine lv_iload_n hx hb d_M_pieces_4 rfl (lv_at hl 2 rfl) ?_
    refine lv_aload_n hx hb d_M_pieces_5 rfl (lv_at hl 0 rfl) ?_
    refine va_get (D := (dC, dI)) (ci := 1) (v := .int (nI nn)) (C := RM) (T := TM) (N := 3) hx hb hts inM hown hK hP 0 rfl rfl 1 (by decide) (hts _ wl_M_7) (fun _ h9 => h9) rfl d_M_pieces_6 ?_
    refine lv_icmp_ge (tgt := 35) hx hb d_M_pieces_9 (by decide) (fun c1 => ?_) (fun c1 => ?_)
    · replace c1 : nn ≤ ci := (nI_leI (a := nn) (b := ci) (by omega) (by omega)).mp c1
      have ee : ci = nn := by omega
      subst ee
      refine lv_iload_n hx hb d_M_pieces_35 rfl (lv_at hl 1 rfl) ?_
      exact W.iret (v := nI q) hx hb hr (fun t9 ht9 hW9 => ⟨⟨nI q, (), rfl, congrArg nI k2, by rw [ht9]; exact hP, va_K.moved hW9.alike hK, hD⟩, hS.F ht9⟩) hS.2.2 d_M_pieces_36
    · replace c1 : ¬ (nn ≤ ci) := fun h9 => c1 ((nI_leI (a := nn) (b := ci) (by omega) (by omega)).mpr h9)
      refine lv_aload_n hx hb d_M_pieces_12 rfl (lv_at hl 0 rfl) ?_
      refine va_get (D := (dC, dI)) (ci := 1) (v := .ref h1) (C := RM) (T := TM) (N := 3) hx hb hts inM hown hK hP 0 rfl rfl 2 (by decide) (hts _ wl_M_13) (fun _ h9 => h9) rfl d_M_pieces_13 ?_
      refine lv_iload_n hx hb d_M_pieces_16 rfl (lv_at hl 2 rfl) ?_
      refine va_zald hx hb hK hP 1 0 rfl rfl (vp_in_nI (by omega) (by decide)) d_M_pieces_17 ?_
      refine lv_topi (nm_r (show _ = F ci from by rw [nI_clamp (by omega)]) ?_)
      refine lv_if_eq (tgt := 27) hx hb d_M_pieces_18 (by decide) (fun c2 => ?_) (fun c2 => ?_)
      · have gf : G ci = false := zv_f (by rw [← hF ci (by omega)]; exact c2)
        have k3 : q = zc G (ci + 1) := by (rw [zc_s, gf, k2]; simp)
        refine lv_iload_n hx hb d_M_pieces_27 rfl (lv_at hl 1 rfl) ?_
        refine lv_istore_n (lv' := [(1, .int (nI q)), (0, .ref h0), (2, .int (nI ci))]) hx hb d_M_pieces_28 rfl hl (by decide) rfl (fun ls hl => ?_)
        refine lv_iinc (v := nI (ci + 1)) (lv' := [(2, .int (nI (ci + 1))), (1, .int (nI q)), (0, .ref h0)]) hx hb d_M_pieces_29 hl (k := 2) rfl (nI_1 _) (by decide) rfl (fun ls hl => ?_)
        refine lv_goto (tgt := 4) hx hb d_M_pieces_32 (by decide) ?_
        apply ih (ls := ls) (H := H) (locs := locs) (ci := ci + 1) (q := q) <;> first | assumption | exact lv_sub hl [2, 1, 0] rfl | omega
      · have gt : G ci = true := zv_t (by rw [← hF ci (by omega)]; exact c2)
        have k3 : q + 1 = zc G (ci + 1) := by (rw [zc_s, gt, k2]; simp)
        refine lv_iload_n hx hb d_M_pieces_21 rfl (lv_at hl 1 rfl) ?_
        refine lv_iconst (v := nI 1) hx hb d_M_pieces_22 (by decide) ?_
        refine lv_iadd hx hb d_M_pieces_23 ?_
        refine lv_topi (nm_r (show _ = nI (q + 1) from nI_add _ _) ?_)
        refine lv_goto (tgt := 28) hx hb d_M_pieces_24 (by decide) ?_
        refine lv_istore_n (lv' := [(1, .int (nI (q + 1))), (0, .ref h0), (2, .int (nI ci))]) hx hb d_M_pieces_28 rfl hl (by decide) rfl (fun ls hl => ?_)
        refine lv_iinc (v := nI (ci + 1)) (lv' := [(2, .int (nI (ci + 1))), (1, .int (nI (q + 1))), (0, .ref h0)]) hx hb d_M_pieces_29 hl (k := 2) rfl (nI_1 _) (by decide) rfl (fun ls hl => ?_)
        refine lv_goto (tgt := 4) hx hb d_M_pieces_32 (by decide) ?_
        apply ih (ls := ls) (H := H) (locs := locs) (ci := ci + 1) (q := q + 1) <;> first | assumption | exact lv_sub hl [2, 1, 0] rfl | omega
end
section
set_option maxHeartbeats 4000000 in
set_option maxRecDepth 100000 in
/-- M_begin -/
theorem cM_begin (l : Launch) (dC : Nat → ClassId) (dI : Nat → Nat → Nat) (h0 h1 : Nat) (cA : ClassId) (sz : Nat) (F : Nat → Int32) (G : Nat → Bool) (nn : Nat) (th : Int32) (hF : MF F G) (x : Int32) (g1 : nn ≤ 16384) (g2 : G 0 = true) (g3 : G nn = true) : Met l y_M_begin ws_M_begin ({ frames := 1, cells := 0, slots := 0, locals := 22 }) (va_Pc [.ref h0, .int x] (cc_P (dC, dI) vwCl (wM h0 h1 cA th (nI nn) F) (tM cA) sz)) (va_Qi (S := Bool × (Nat → Int32) × (Nat → Bool)) (fun (r : Int32) (u : Bool × (Nat → Int32) × (Nat → Bool)) => MF u.2.1 u.2.2 ∧ ((u.1 = true ∧ ∃ k, k < nn ∧ x = nI k ∧ r = nI (zb G k) ∧ u.2.2 = G) ∨ (u.1 = false ∧ (¬ ∃ k, k < nn ∧ x = nI k) ∧ u.2.2 = G))) (fun u t => cc_B (dC, dI) vwCl (tM cA) (va_A (wM h0 h1 cA th (nI nn) F) sz) ((fun u : Bool × (Nat → Int32) × (Nat → Bool) => (wM h0 h1 cA (zv (!u.1)) (nI nn) u.2.1)) u) t) (va_A (wM h0 h1 cA th (nI nn) F) sz)) 0 0 (va_A (wM h0 h1 cA th (nI nn) F) sz) := by
  refine Met.ofW (cc := c_M_begin) (maxL := 2) (ret := (some .int)) (by decide) rfl ?_
  intro p e s m args below meth c s₁ B hml hv
  obtain ⟨rfl, hsz, hP, hK, hD0⟩ := hv
  have hx := B.exec
  have hb := B.bytes
  have hr := B.returns
  have hts : ∀ w ∈ zAll, w.before _ s = true := fun w h => atoms_spec (ws := ws_M_begin) B.pre w (List.mem_cons_of_mem _ h)
  have hown : s.vm.findClass RM = some m.cls := findClass_of_methodNamed B.named
  have hlocks := B.notSynchronized
  subst hsz
  have hD := hD0.self (sz := s.heap.size)
  generalize hAe : va_A (wM h0 h1 cA th (nI nn) F) s.heap.size = A at hD ⊢
  have hA : ∀ q : Nat, s.heap.size ≤ q → A q := fun q h => by rw [← hAe]; exact Or.inr h
  have hS : va_S A s.heap s.heap [] := va_S.rf
  replace hP : va_P (dC, dI) vwCl [(h0, .inr (1, [.int th, .int (nI nn), .ref h1])), (h1, .inl (cA, 16385, .inl F))] s.heap := hP
  replace hD : va_D A [(h0, .inr (1, [.int th, .int (nI nn), .ref h1])), (h1, .inl (cA, 16385, .inl F))] := hD
  have hl := lv_entry ([.ref h0, .int x]) (n := 2) (Nat.le_of_ble_eq_true rfl)
  rw [lg_entry_eq]
  generalize (lg_sl ([.ref h0, .int x]) ++ List.replicate (2 - (lg_sl ([.ref h0, .int x])).length) Slot.unset).toArray = ls at hl ⊢
  replace hl : lv_has ls 2 [(0, .ref h0), (1, .int x)] := hl
  refine lv_aload_n hx hb d_M_begin_0 rfl (lv_at hl 0 rfl) ?_
  refine lv_aload_n hx hb d_M_begin_1 rfl (lv_at hl 0 rfl) ?_
  refine lv_iload_n hx hb d_M_begin_2 rfl (lv_at hl 1 rfl) ?_
  refine cc_Vi (wc := [(h0, .inr (1, [.int th, .int (nI nn), .ref h1])), (h1, .inl (cA, 16385, .inl F))]) (wr := []) (tys' := [(cA, .boolean)]) ⟨hx, hb, hml, hown, hts⟩ hP hD hK hS hA [0, 1] [] [0] rfl rfl rfl (by decide) (by decide) (by decide) rfl (cM_isCell l dC dI h0 h1 cA _ F G nn th hF x g1) (cwV 1 hts g_M_28 rfl rfl rfl (by decide +kernel) ⟨Nat.le_of_ble_eq_true rfl, Nat.le_of_ble_eq_true rfl⟩) 0 1 rfl rfl rfl rfl hl.1 rfl (Nat.le_of_ble_eq_true rfl) d_M_begin_3 ⟨Nat.le_of_ble_eq_true rfl, Nat.le_of_ble_eq_true rfl⟩ (fun r_9 bb H locs hw hP hD hS => ?_)
  replace hP : va_P (dC, dI) vwCl [(h0, .inr (1, [.int th, .int (nI nn), .ref h1])), (h1, .inl (cA, 16385, .inl F))] H := hP
  replace hD : va_D A [(h0, .inr (1, [.int th, .int (nI nn), .ref h1])), (h1, .inl (cA, 16385, .inl F))] := hD
  obtain ⟨rfl, hb1, hb2⟩ := hw
  refine cc_Vi (wc := [(h0, .inr (1, [.int th, .int (nI nn), .ref h1])), (h1, .inl (cA, 16385, .inl F))]) (wr := []) (tys' := [(cA, .boolean)]) ⟨hx, hb, hml, hown, hts⟩ hP hD hK hS hA [0, 1] [] [0] rfl rfl rfl (by decide) (by decide) (by decide) rfl (cM_goes l dC dI h0 h1 cA _ F G nn th hF bb) (cwV 1 hts g_M_24 rfl rfl rfl (by decide +kernel) ⟨Nat.le_of_ble_eq_true rfl, Nat.le_of_ble_eq_true rfl⟩) 0 1 rfl rfl rfl rfl hl.1 rfl (Nat.le_of_ble_eq_true rfl) d_M_begin_6 ⟨Nat.le_of_ble_eq_true rfl, Nat.le_of_ble_eq_true rfl⟩ (fun r_9 u9 H locs hw9 hP hD hS => ?_)
  replace hP : va_P (dC, dI) vwCl [(h0, .inr (1, [.int (zv (!bb)), .int (nI nn), .ref h1])), (h1, .inl (cA, 16385, .inl F))] H := hP
  replace hD : va_D A [(h0, .inr (1, [.int (zv (!bb)), .int (nI nn), .ref h1])), (h1, .inl (cA, 16385, .inl F))] := hD
  subst hw9
  refine lv_if_eq (tgt := 20) hx hb d_M_begin_9 (by decide) (fun c1 => ?_) (fun c1 => ?_)
  · have eb : bb = false := zv_f c1
    subst eb
    refine lv_iconst (v := nI 0) hx hb d_M_begin_20 (by decide) ?_
    exact W.iret (v := nI 0) hx hb hr (fun t9 ht9 hW9 => ⟨⟨nI 0, (false, F, G), rfl, ⟨hF, Or.inr ⟨rfl, hb2 rfl, rfl⟩⟩, by rw [ht9]; exact hP, va_K.moved hW9.alike hK, hD⟩, hS.F ht9⟩) hS.2.2 d_M_begin_21
  · have eb : bb = true := zv_t c1
    subst eb
    obtain ⟨k, k1, rfl⟩ := hb1 rfl
    refine lv_aload_n hx hb d_M_begin_12 rfl (lv_at hl 0 rfl) ?_
    refine lv_iload_n hx hb d_M_begin_13 rfl (lv_at hl 1 rfl) ?_
    refine cc_Vi (wc := [(h0, .inr (1, [.int (zv (!true)), .int (nI nn), .ref h1])), (h1, .inl (cA, 16385, .inl F))]) (wr := []) (tys' := [(cA, .boolean)]) ⟨hx, hb, hml, hown, hts⟩ hP hD hK hS hA [0, 1] [] [0] rfl rfl rfl (by decide) (by decide) (by decide) rfl (cM_from l dC dI h0 h1 cA _ F G nn (zv (!true)) hF k (by omega) g2) (cwV 1 hts g_M_32 rfl rfl rfl (by decide +kernel) ⟨Nat.le_of_ble_eq_true rfl, Nat.le_of_ble_eq_true rfl⟩) 0 1 rfl rfl rfl rfl hl.1 rfl (Nat.le_of_ble_eq_true rfl) d_M_begin_14 ⟨Nat.le_of_ble_eq_true rfl, Nat.le_of_ble_eq_true rfl⟩ (fun r_9 u H locs hw hP hD hS => ?_)
    replace hP : va_P (dC, dI) vwCl [(h0, .inr (1, [.int (zv (!true)), .int (nI nn), .ref h1])), (h1, .inl (cA, 16385, .inl F))] H := hP
    replace hD : va_D A [(h0, .inr (1, [.int (zv (!true)), .int (nI nn), .ref h1])), (h1, .inl (cA, 16385, .inl F))] := hD
    subst hw
    have zl := zb_le G k
    refine lv_goto (tgt := 21) hx hb d_M_begin_17 (by decide) ?_
    exact W.iret (v := nI (zb G k)) hx hb hr (fun t9 ht9 hW9 => ⟨⟨nI (zb G k), (true, F, G), rfl, ⟨hF, Or.inl ⟨rfl, k, k1, rfl, rfl, rfl⟩⟩, by rw [ht9]; exact hP, va_K.moved hW9.alike hK, hD⟩, hS.F ht9⟩) hS.2.2 d_M_begin_21
set_option maxHeartbeats 4000000 in
set_option maxRecDepth 100000 in
/-- M_size -/
theorem cM_size (l : Launch) (dC : Nat → ClassId) (dI : Nat → Nat → Nat) (h0 h1 : Nat) (cA : ClassId) (sz : Nat) (F : Nat → Int32) (G : Nat → Bool) (nn : Nat) (th : Int32) (hF : MF F G) (x : Int32) (g1 : nn ≤ 16384) (g2 : G 0 = true) (g3 : G nn = true) : Met l y_M_size ws_M_size ({ frames := 1, cells := 0, slots := 0, locals := 22 }) (va_Pc [.ref h0, .int x] (cc_P (dC, dI) vwCl (wM h0 h1 cA th (nI nn) F) (tM cA) sz)) (va_Qi (S := Bool × (Nat → Int32) × (Nat → Bool)) (fun (r : Int32) (u : Bool × (Nat → Int32) × (Nat → Bool)) => MF u.2.1 u.2.2 ∧ ((u.1 = true ∧ ∃ k, k < nn ∧ x = nI k ∧ r = nI (zn G nn (k + 1) - zb G k) ∧ u.2.2 = G) ∨ (u.1 = false ∧ (¬ ∃ k, k < nn ∧ x = nI k) ∧ u.2.2 = G))) (fun u t => cc_B (dC, dI) vwCl (tM cA) (va_A (wM h0 h1 cA th (nI nn) F) sz) ((fun u : Bool × (Nat → Int32) × (Nat → Bool) => (wM h0 h1 cA (zv (!u.1)) (nI nn) u.2.1)) u) t) (va_A (wM h0 h1 cA th (nI nn) F) sz)) 0 0 (va_A (wM h0 h1 cA th (nI nn) F) sz) := by
  refine Met.ofW (cc := c_M_size) (maxL := 2) (ret := (some .int)) (by decide) rfl ?_
  intro p e s m args below meth c s₁ B hml hv
  obtain ⟨rfl, hsz, hP, hK, hD0⟩ := hv
  have hx := B.exec
  have hb := B.bytes
  have hr := B.returns
  have hts : ∀ w ∈ zAll, w.before _ s = true := fun w h => atoms_spec (ws := ws_M_size) B.pre w (List.mem_cons_of_mem _ h)
  have hown : s.vm.findClass RM = some m.cls := findClass_of_methodNamed B.named
  have hlocks := B.notSynchronized
  subst hsz
  have hD := hD0.self (sz := s.heap.size)
  generalize hAe : va_A (wM h0 h1 cA th (nI nn) F) s.heap.size = A at hD ⊢
  have hA : ∀ q : Nat, s.heap.size ≤ q → A q := fun q h => by rw [← hAe]; exact Or.inr h
  have hS : va_S A s.heap s.heap [] := va_S.rf
  replace hP : va_P (dC, dI) vwCl [(h0, .inr (1, [.int th, .int (nI nn), .ref h1])), (h1, .inl (cA, 16385, .inl F))] s.heap := hP
  replace hD : va_D A [(h0, .inr (1, [.int th, .int (nI nn), .ref h1])), (h1, .inl (cA, 16385, .inl F))] := hD
  have hl := lv_entry ([.ref h0, .int x]) (n := 2) (Nat.le_of_ble_eq_true rfl)
  rw [lg_entry_eq]
  generalize (lg_sl ([.ref h0, .int x]) ++ List.replicate (2 - (lg_sl ([.ref h0, .int x])).length) Slot.unset).toArray = ls at hl ⊢
  replace hl : lv_has ls 2 [(0, .ref h0), (1, .int x)] := hl
  refine lv_aload_n hx hb d_M_size_0 rfl (lv_at hl 0 rfl) ?_
  refine lv_aload_n hx hb d_M_size_1 rfl (lv_at hl 0 rfl) ?_
  refine lv_iload_n hx hb d_M_size_2 rfl (lv_at hl 1 rfl) ?_
  refine cc_Vi (wc := [(h0, .inr (1, [.int th, .int (nI nn), .ref h1])), (h1, .inl (cA, 16385, .inl F))]) (wr := []) (tys' := [(cA, .boolean)]) ⟨hx, hb, hml, hown, hts⟩ hP hD hK hS hA [0, 1] [] [0] rfl rfl rfl (by decide) (by decide) (by decide) rfl (cM_isCell l dC dI h0 h1 cA _ F G nn th hF x g1) (cwV 1 hts g_M_28 rfl rfl rfl (by decide +kernel) ⟨Nat.le_of_ble_eq_true rfl, Nat.le_of_ble_eq_true rfl⟩) 0 1 rfl rfl rfl rfl hl.1 rfl (Nat.le_of_ble_eq_true rfl) d_M_size_3 ⟨Nat.le_of_ble_eq_true rfl, Nat.le_of_ble_eq_true rfl⟩ (fun r_9 bb H locs hw hP hD hS => ?_)
  replace hP : va_P (dC, dI) vwCl [(h0, .inr (1, [.int th, .int (nI nn), .ref h1])), (h1, .inl (cA, 16385, .inl F))] H := hP
  replace hD : va_D A [(h0, .inr (1, [.int th, .int (nI nn), .ref h1])), (h1, .inl (cA, 16385, .inl F))] := hD
  obtain ⟨rfl, hb1, hb2⟩ := hw
  refine cc_Vi (wc := [(h0, .inr (1, [.int th, .int (nI nn), .ref h1])), (h1, .inl (cA, 16385, .inl F))]) (wr := []) (tys' := [(cA, .boolean)]) ⟨hx, hb, hml, hown, hts⟩ hP hD hK hS hA [0, 1] [] [0] rfl rfl rfl (by decide) (by decide) (by decide) rfl (cM_goes l dC dI h0 h1 cA _ F G nn th hF bb) (cwV 1 hts g_M_24 rfl rfl rfl (by decide +kernel) ⟨Nat.le_of_ble_eq_true rfl, Nat.le_of_ble_eq_true rfl⟩) 0 1 rfl rfl rfl rfl hl.1 rfl (Nat.le_of_ble_eq_true rfl) d_M_size_6 ⟨Nat.le_of_ble_eq_true rfl, Nat.le_of_ble_eq_true rfl⟩ (fun r_9 u9 H locs hw9 hP hD hS => ?_)
  replace hP : va_P (dC, dI) vwCl [(h0, .inr (1, [.int (zv (!bb)), .int (nI nn), .ref h1])), (h1, .inl (cA, 16385, .inl F))] H := hP
  replace hD : va_D A [(h0, .inr (1, [.int (zv (!bb)), .int (nI nn), .ref h1])), (h1, .inl (cA, 16385, .inl F))] := hD
  subst hw9
  refine lv_if_eq (tgt := 26) hx hb d_M_size_9 (by decide) (fun c1 => ?_) (fun c1 => ?_)
  · have eb : bb = false := zv_f c1
    subst eb
    refine lv_iconst (v := nI 0) hx hb d_M_size_26 (by decide) ?_
    exact W.iret (v := nI 0) hx hb hr (fun t9 ht9 hW9 => ⟨⟨nI 0, (false, F, G), rfl, ⟨hF, Or.inr ⟨rfl, hb2 rfl, rfl⟩⟩, by rw [ht9]; exact hP, va_K.moved hW9.alike hK, hD⟩, hS.F ht9⟩) hS.2.2 d_M_size_27
  · have eb : bb = true := zv_t c1
    subst eb
    obtain ⟨k, k1, rfl⟩ := hb1 rfl
    refine lv_aload_n hx hb d_M_size_12 rfl (lv_at hl 0 rfl) ?_
    refine lv_iload_n hx hb d_M_size_13 rfl (lv_at hl 1 rfl) ?_
    refine cc_Vi (wc := [(h0, .inr (1, [.int (zv (!true)), .int (nI nn), .ref h1])), (h1, .inl (cA, 16385, .inl F))]) (wr := []) (tys' := [(cA, .boolean)]) ⟨hx, hb, hml, hown, hts⟩ hP hD hK hS hA [0, 1] [] [0] rfl rfl rfl (by decide) (by decide) (by decide) rfl (cM_behind l dC dI h0 h1 cA _ F G nn (zv (!true)) hF k (by omega) g1 g3) (cwV 1 hts g_M_36 rfl rfl rfl (by decide +kernel) ⟨Nat.le_of_ble_eq_true rfl, Nat.le_of_ble_eq_true rfl⟩) 0 1 rfl rfl rfl rfl hl.1 rfl (Nat.le_of_ble_eq_true rfl) d_M_size_14 ⟨Nat.le_of_ble_eq_true rfl, Nat.le_of_ble_eq_true rfl⟩ (fun r_9 u H locs hw hP hD hS => ?_)
    replace hP : va_P (dC, dI) vwCl [(h0, .inr (1, [.int (zv (!true)), .int (nI nn), .ref h1])), (h1, .inl (cA, 16385, .inl F))] H := hP
    replace hD : va_D A [(h0, .inr (1, [.int (zv (!true)), .int (nI nn), .ref h1])), (h1, .inl (cA, 16385, .inl F))] := hD
    subst hw
    have zg1 := zn_ge G nn (k + 1)
    have zh1 : zn G nn (k + 1) ≤ nn := zn_le (by omega)
    refine lv_aload_n hx hb d_M_size_17 rfl (lv_at hl 0 rfl) ?_
    refine lv_iload_n hx hb d_M_size_18 rfl (lv_at hl 1 rfl) ?_
    refine cc_Vi (wc := [(h0, .inr (1, [.int (zv (!true)), .int (nI nn), .ref h1])), (h1, .inl (cA, 16385, .inl F))]) (wr := []) (tys' := [(cA, .boolean)]) ⟨hx, hb, hml, hown, hts⟩ hP hD hK hS hA [0, 1] [] [0] rfl rfl rfl (by decide) (by decide) (by decide) rfl (cM_from l dC dI h0 h1 cA _ F G nn (zv (!true)) hF k (by omega) g2) (cwV 1 hts g_M_32 rfl rfl rfl (by decide +kernel) ⟨Nat.le_of_ble_eq_true rfl, Nat.le_of_ble_eq_true rfl⟩) 0 1 rfl rfl rfl rfl hl.1 rfl (Nat.le_of_ble_eq_true rfl) d_M_size_19 ⟨Nat.le_of_ble_eq_true rfl, Nat.le_of_ble_eq_true rfl⟩ (fun r_9 u H locs hw hP hD hS => ?_)
    replace hP : va_P (dC, dI) vwCl [(h0, .inr (1, [.int (zv (!true)), .int (nI nn), .ref h1])), (h1, .inl (cA, 16385, .inl F))] H := hP
    replace hD : va_D A [(h0, .inr (1, [.int (zv (!true)), .int (nI nn), .ref h1])), (h1, .inl (cA, 16385, .inl F))] := hD
    subst hw
    have zl := zb_le G k
    refine lv_isub hx hb d_M_size_22 ?_
    refine lv_topi (nm_r (show _ = nI ((zn G nn (k + 1)) - (zb G k)) from pk_sub (by omega)) ?_)
    refine lv_goto (tgt := 27) hx hb d_M_size_23 (by decide) ?_
    exact W.iret (v := nI ((zn G nn (k + 1)) - (zb G k))) hx hb hr (fun t9 ht9 hW9 => ⟨⟨nI ((zn G nn (k + 1)) - (zb G k)), (true, F, G), rfl, ⟨hF, Or.inl ⟨rfl, k, k1, rfl, rfl, rfl⟩⟩, by rw [ht9]; exact hP, va_K.moved hW9.alike hK, hD⟩, hS.F ht9⟩) hS.2.2 d_M_size_27
set_option maxHeartbeats 4000000 in
set_option maxRecDepth 100000 in
/-- M_start -/
theorem cM_start (l : Launch) (dC : Nat → ClassId) (dI : Nat → Nat → Nat) (h0 h1 : Nat) (cA : ClassId) (sz : Nat) (F : Nat → Int32) (G : Nat → Bool) (nn : Nat) (th : Int32) (hF : MF F G) (x : Int32) (g1 : nn ≤ 16384) (g2 : G 0 = true) (g3 : G nn = true) : Met l y_M_start ws_M_start ({ frames := 2, cells := 0, slots := 0, locals := 41 }) (va_Pc [.ref h0, .int x] (cc_P (dC, dI) vwCl (wM h0 h1 cA th (nI nn) F) (tM cA) sz)) (va_Qi (S := Bool × (Nat → Int32) × (Nat → Bool)) (fun (r : Int32) (u : Bool × (Nat → Int32) × (Nat → Bool)) => MF u.2.1 u.2.2 ∧ ((u.1 = true ∧ ∃ k, k < (nn + 31) / 32 ∧ x = nI k ∧ r = nI (zb G (32 * k)) ∧ u.2.2 = G) ∨ (u.1 = false ∧ (¬ ∃ k, k < (nn + 31) / 32 ∧ x = nI k) ∧ u.2.2 = G))) (fun u t => cc_B (dC, dI) vwCl (tM cA) (va_A (wM h0 h1 cA th (nI nn) F) sz) ((fun u : Bool × (Nat → Int32) × (Nat → Bool) => (wM h0 h1 cA (zv (!u.1)) (nI nn) u.2.1)) u) t) (va_A (wM h0 h1 cA th (nI nn) F) sz)) 0 0 (va_A (wM h0 h1 cA th (nI nn) F) sz) := by
  refine Met.ofW (cc := c_M_start) (maxL := 2) (ret := (some .int)) (by decide) rfl ?_
  intro p e s m args below meth c s₁ B hml hv
  obtain ⟨rfl, hsz, hP, hK, hD0⟩ := hv
  have hx := B.exec
  have hb := B.bytes
  have hr := B.returns
  have hts : ∀ w ∈ zAll, w.before _ s = true := fun w h => atoms_spec (ws := ws_M_start) B.pre w (List.mem_cons_of_mem _ h)
  have hown : s.vm.findClass RM = some m.cls := findClass_of_methodNamed B.named
  have hlocks := B.notSynchronized
  subst hsz
  have hD := hD0.self (sz := s.heap.size)
  generalize hAe : va_A (wM h0 h1 cA th (nI nn) F) s.heap.size = A at hD ⊢
  have hA : ∀ q : Nat, s.heap.size ≤ q → A q := fun q h => by rw [← hAe]; exact Or.inr h
  have hS : va_S A s.heap s.heap [] := va_S.rf
  replace hP : va_P (dC, dI) vwCl [(h0, .inr (1, [.int th, .int (nI nn), .ref h1])), (h1, .inl (cA, 16385, .inl F))] s.heap := hP
  replace hD : va_D A [(h0, .inr (1, [.int th, .int (nI nn), .ref h1])), (h1, .inl (cA, 16385, .inl F))] := hD
  have hl := lv_entry ([.ref h0, .int x]) (n := 2) (Nat.le_of_ble_eq_true rfl)
  rw [lg_entry_eq]
  generalize (lg_sl ([.ref h0, .int x]) ++ List.replicate (2 - (lg_sl ([.ref h0, .int x])).length) Slot.unset).toArray = ls at hl ⊢
  replace hl : lv_has ls 2 [(0, .ref h0), (1, .int x)] := hl
  refine lv_aload_n hx hb d_M_start_0 rfl (lv_at hl 0 rfl) ?_
  refine lv_aload_n hx hb d_M_start_1 rfl (lv_at hl 0 rfl) ?_
  refine lv_iload_n hx hb d_M_start_2 rfl (lv_at hl 1 rfl) ?_
  refine cc_Vi (wc := [(h0, .inr (1, [.int th, .int (nI nn), .ref h1])), (h1, .inl (cA, 16385, .inl F))]) (wr := []) (tys' := [(cA, .boolean)]) ⟨hx, hb, hml, hown, hts⟩ hP hD hK hS hA [0, 1] [] [0] rfl rfl rfl (by decide) (by decide) (by decide) rfl (cM_isCard l dC dI h0 h1 cA _ F G nn th hF x g1) (cwV 1 hts g_M_42 rfl rfl rfl (by decide +kernel) ⟨Nat.le_of_ble_eq_true rfl, Nat.le_of_ble_eq_true rfl⟩) 0 1 rfl rfl rfl rfl hl.1 rfl (Nat.le_of_ble_eq_true rfl) d_M_start_3 ⟨Nat.le_of_ble_eq_true rfl, Nat.le_of_ble_eq_true rfl⟩ (fun r_9 bb H locs hw hP hD hS => ?_)
  replace hP : va_P (dC, dI) vwCl [(h0, .inr (1, [.int th, .int (nI nn), .ref h1])), (h1, .inl (cA, 16385, .inl F))] H := hP
  replace hD : va_D A [(h0, .inr (1, [.int th, .int (nI nn), .ref h1])), (h1, .inl (cA, 16385, .inl F))] := hD
  obtain ⟨rfl, hb1, hb2⟩ := hw
  refine cc_Vi (wc := [(h0, .inr (1, [.int th, .int (nI nn), .ref h1])), (h1, .inl (cA, 16385, .inl F))]) (wr := []) (tys' := [(cA, .boolean)]) ⟨hx, hb, hml, hown, hts⟩ hP hD hK hS hA [0, 1] [] [0] rfl rfl rfl (by decide) (by decide) (by decide) rfl (cM_goes l dC dI h0 h1 cA _ F G nn th hF bb) (cwV 1 hts g_M_24 rfl rfl rfl (by decide +kernel) ⟨Nat.le_of_ble_eq_true rfl, Nat.le_of_ble_eq_true rfl⟩) 0 1 rfl rfl rfl rfl hl.1 rfl (Nat.le_of_ble_eq_true rfl) d_M_start_6 ⟨Nat.le_of_ble_eq_true rfl, Nat.le_of_ble_eq_true rfl⟩ (fun r_9 u9 H locs hw9 hP hD hS => ?_)
  replace hP : va_P (dC, dI) vwCl [(h0, .inr (1, [.int (zv (!bb)), .int (nI nn), .ref h1])), (h1, .inl (cA, 16385, .inl F))] H := hP
  replace hD : va_D A [(h0, .inr (1, [.int (zv (!bb)), .int (nI nn), .ref h1])), (h1, .inl (cA, 16385, .inl F))] := hD
  subst hw9
  refine lv_if_eq (tgt := 23) hx hb d_M_start_9 (by decide) (fun c1 => ?_) (fun c1 => ?_)
  · have eb : bb = false := zv_f c1
    subst eb
    refine lv_iconst (v := nI 0) hx hb d_M_start_23 (by decide) ?_
    exact W.iret (v := nI 0) hx hb hr (fun t9 ht9 hW9 => ⟨⟨nI 0, (false, F, G), rfl, ⟨hF, Or.inr ⟨rfl, hb2 rfl, rfl⟩⟩, by rw [ht9]; exact hP, va_K.moved hW9.alike hK, hD⟩, hS.F ht9⟩) hS.2.2 d_M_start_24
  · have eb : bb = true := zv_t c1
    subst eb
    obtain ⟨k, k1, rfl⟩ := hb1 rfl
    refine lv_aload_n hx hb d_M_start_12 rfl (lv_at hl 0 rfl) ?_
    refine lv_bipush (v := nI 32) hx hb d_M_start_13 (by decide) ?_
    refine lv_iload_n hx hb d_M_start_15 rfl (lv_at hl 1 rfl) ?_
    refine lv_imul hx hb d_M_start_16 ?_
    refine lv_topi (nm_r (show _ = nI (32 * k) from pk_mul _ _) ?_)
    refine cc_Vi (wc := [(h0, .inr (1, [.int (zv (!true)), .int (nI nn), .ref h1])), (h1, .inl (cA, 16385, .inl F))]) (wr := []) (tys' := [(cA, .boolean)]) ⟨hx, hb, hml, hown, hts⟩ hP hD hK hS hA [0, 1] [] [0] rfl rfl rfl (by decide) (by decide) (by decide) rfl (cM_from l dC dI h0 h1 cA _ F G nn (zv (!true)) hF (32 * k) (by omega) g2) (cwV 1 hts g_M_32 rfl rfl rfl (by decide +kernel) ⟨Nat.le_of_ble_eq_true rfl, Nat.le_of_ble_eq_true rfl⟩) 0 1 rfl rfl rfl rfl hl.1 rfl (Nat.le_of_ble_eq_true rfl) d_M_start_17 ⟨Nat.le_of_ble_eq_true rfl, Nat.le_of_ble_eq_true rfl⟩ (fun r_9 u H locs hw hP hD hS => ?_)
    replace hP : va_P (dC, dI) vwCl [(h0, .inr (1, [.int (zv (!true)), .int (nI nn), .ref h1])), (h1, .inl (cA, 16385, .inl F))] H := hP
    replace hD : va_D A [(h0, .inr (1, [.int (zv (!true)), .int (nI nn), .ref h1])), (h1, .inl (cA, 16385, .inl F))] := hD
    subst hw
    have zl := zb_le G (32 * k)
    refine lv_goto (tgt := 24) hx hb d_M_start_20 (by decide) ?_
    exact W.iret (v := nI (zb G (32 * k))) hx hb hr (fun t9 ht9 hW9 => ⟨⟨nI (zb G (32 * k)), (true, F, G), rfl, ⟨hF, Or.inl ⟨rfl, k, k1, rfl, rfl, rfl⟩⟩, by rw [ht9]; exact hP, va_K.moved hW9.alike hK, hD⟩, hS.F ht9⟩) hS.2.2 d_M_start_24
set_option maxHeartbeats 4000000 in
set_option maxRecDepth 100000 in
/-- M_cut -/
theorem cM_cut (l : Launch) (dC : Nat → ClassId) (dI : Nat → Nat → Nat) (h0 h1 : Nat) (cA : ClassId) (sz : Nat) (F : Nat → Int32) (G : Nat → Bool) (nn : Nat) (th : Int32) (hF : MF F G) (x : Int32) (g1 : nn ≤ 16384) (g2 : G 0 = true) (g3 : G nn = true) : Met l y_M_cut ws_M_cut ({ frames := 1, cells := 0, slots := 0, locals := 22 }) (va_Pc [.ref h0, .int x] (cc_P (dC, dI) vwCl (wM h0 h1 cA th (nI nn) F) (tM cA) sz)) (va_Qi (S := Bool × (Nat → Int32) × (Nat → Bool)) (fun (r : Int32) (u : Bool × (Nat → Int32) × (Nat → Bool)) => MF u.2.1 u.2.2 ∧ ((u.1 = true ∧ ∃ k, k < nn ∧ x = nI k ∧ r = nI (k - zb G k) ∧ u.2.2 = upG G k true) ∨ (u.1 = false ∧ (¬ ∃ k, k < nn ∧ x = nI k) ∧ u.2.2 = G))) (fun u t => cc_B (dC, dI) vwCl (tM cA) (va_A (wM h0 h1 cA th (nI nn) F) sz) ((fun u : Bool × (Nat → Int32) × (Nat → Bool) => (wM h0 h1 cA (zv (!u.1)) (nI nn) u.2.1)) u) t) (va_A (wM h0 h1 cA th (nI nn) F) sz)) 0 0 (va_A (wM h0 h1 cA th (nI nn) F) sz) := by
  refine Met.ofW (cc := c_M_cut) (maxL := 3) (ret := (some .int)) (by decide) rfl ?_
  intro p e s m args below meth c s₁ B hml hv
  obtain ⟨rfl, hsz, hP, hK, hD0⟩ := hv
  have hx := B.exec
  have hb := B.bytes
  have hr := B.returns
  have hts : ∀ w ∈ zAll, w.before _ s = true := fun w h => atoms_spec (ws := ws_M_cut) B.pre w (List.mem_cons_of_mem _ h)
  have hown : s.vm.findClass RM = some m.cls := findClass_of_methodNamed B.named
  have hlocks := B.notSynchronized
  subst hsz
  have hD := hD0.self (sz := s.heap.size)
  generalize hAe : va_A (wM h0 h1 cA th (nI nn) F) s.heap.size = A at hD ⊢
  have hA : ∀ q : Nat, s.heap.size ≤ q → A q := fun q h => by rw [← hAe]; exact Or.inr h
  have hS : va_S A s.heap s.heap [] := va_S.rf
  replace hP : va_P (dC, dI) vwCl [(h0, .inr (1, [.int th, .int (nI nn), .ref h1])), (h1, .inl (cA, 16385, .inl F))] s.heap := hP
  replace hD : va_D A [(h0, .inr (1, [.int th, .int (nI nn), .ref h1])), (h1, .inl (cA, 16385, .inl F))] := hD
  have hl := lv_entry ([.ref h0, .int x]) (n := 3) (Nat.le_of_ble_eq_true rfl)
  rw [lg_entry_eq]
  generalize (lg_sl ([.ref h0, .int x]) ++ List.replicate (3 - (lg_sl ([.ref h0, .int x])).length) Slot.unset).toArray = ls at hl ⊢
  replace hl : lv_has ls 3 [(0, .ref h0), (1, .int x)] := hl
  refine lv_aload_n hx hb d_M_cut_0 rfl (lv_at hl 0 rfl) ?_
  refine lv_aload_n hx hb d_M_cut_1 rfl (lv_at hl 0 rfl) ?_
  refine lv_iload_n hx hb d_M_cut_2 rfl (lv_at hl 1 rfl) ?_
  refine cc_Vi (wc := [(h0, .inr (1, [.int th, .int (nI nn), .ref h1])), (h1, .inl (cA, 16385, .inl F))]) (wr := []) (tys' := [(cA, .boolean)]) ⟨hx, hb, hml, hown, hts⟩ hP hD hK hS hA [0, 1] [] [0] rfl rfl rfl (by decide) (by decide) (by decide) rfl (cM_isCell l dC dI h0 h1 cA _ F G nn th hF x g1) (cwV 1 hts g_M_28 rfl rfl rfl (by decide +kernel) ⟨Nat.le_of_ble_eq_true rfl, Nat.le_of_ble_eq_true rfl⟩) 0 1 rfl rfl rfl rfl hl.1 rfl (Nat.le_of_ble_eq_true rfl) d_M_cut_3 ⟨Nat.le_of_ble_eq_true rfl, Nat.le_of_ble_eq_true rfl⟩ (fun r_9 bb H locs hw hP hD hS => ?_)
  replace hP : va_P (dC, dI) vwCl [(h0, .inr (1, [.int th, .int (nI nn), .ref h1])), (h1, .inl (cA, 16385, .inl F))] H := hP
  replace hD : va_D A [(h0, .inr (1, [.int th, .int (nI nn), .ref h1])), (h1, .inl (cA, 16385, .inl F))] := hD
  obtain ⟨rfl, hb1, hb2⟩ := hw
  refine cc_Vi (wc := [(h0, .inr (1, [.int th, .int (nI nn), .ref h1])), (h1, .inl (cA, 16385, .inl F))]) (wr := []) (tys' := [(cA, .boolean)]) ⟨hx, hb, hml, hown, hts⟩ hP hD hK hS hA [0, 1] [] [0] rfl rfl rfl (by decide) (by decide) (by decide) rfl (cM_goes l dC dI h0 h1 cA _ F G nn th hF bb) (cwV 1 hts g_M_24 rfl rfl rfl (by decide +kernel) ⟨Nat.le_of_ble_eq_true rfl, Nat.le_of_ble_eq_true rfl⟩) 0 1 rfl rfl rfl rfl hl.1 rfl (Nat.le_of_ble_eq_true rfl) d_M_cut_6 ⟨Nat.le_of_ble_eq_true rfl, Nat.le_of_ble_eq_true rfl⟩ (fun r_9 u9 H locs hw9 hP hD hS => ?_)
  replace hP : va_P (dC, dI) vwCl [(h0, .inr (1, [.int (zv (!bb)), .int (nI nn), .ref h1])), (h1, .inl (cA, 16385, .inl F))] H := hP
  replace hD : va_D A [(h0, .inr (1, [.int (zv (!bb)), .int (nI nn), .ref h1])), (h1, .inl (cA, 16385, .inl F))] := hD
  subst hw9
  refine lv_if_ne (tgt := 14) hx hb d_M_cut_9 (by decide) (fun c1 => ?_) (fun c1 => ?_)
  · have eb : bb = true := zv_t c1
    subst eb
    obtain ⟨k, k1, rfl⟩ := hb1 rfl
    refine lv_iload_n hx hb d_M_cut_14 rfl (lv_at hl 1 rfl) ?_
    refine lv_aload_n hx hb d_M_cut_15 rfl (lv_at hl 0 rfl) ?_
    refine lv_iload_n hx hb d_M_cut_16 rfl (lv_at hl 1 rfl) ?_
    refine cc_Vi (wc := [(h0, .inr (1, [.int (zv (!true)), .int (nI nn), .ref h1])), (h1, .inl (cA, 16385, .inl F))]) (wr := []) (tys' := [(cA, .boolean)]) ⟨hx, hb, hml, hown, hts⟩ hP hD hK hS hA [0, 1] [] [0] rfl rfl rfl (by decide) (by decide) (by decide) rfl (cM_from l dC dI h0 h1 cA _ F G nn (zv (!true)) hF k (by omega) g2) (cwV 1 hts g_M_32 rfl rfl rfl (by decide +kernel) ⟨Nat.le_of_ble_eq_true rfl, Nat.le_of_ble_eq_true rfl⟩) 0 1 rfl rfl rfl rfl hl.1 rfl (Nat.le_of_ble_eq_true rfl) d_M_cut_17 ⟨Nat.le_of_ble_eq_true rfl, Nat.le_of_ble_eq_true rfl⟩ (fun r_9 u H locs hw hP hD hS => ?_)
    replace hP : va_P (dC, dI) vwCl [(h0, .inr (1, [.int (zv (!true)), .int (nI nn), .ref h1])), (h1, .inl (cA, 16385, .inl F))] H := hP
    replace hD : va_D A [(h0, .inr (1, [.int (zv (!true)), .int (nI nn), .ref h1])), (h1, .inl (cA, 16385, .inl F))] := hD
    subst hw
    have zl := zb_le G k
    refine lv_isub hx hb d_M_cut_20 ?_
    refine lv_topi (nm_r (show _ = nI (k - (zb G k)) from pk_sub (by omega)) ?_)
    refine lv_istore_n (lv' := [(2, .int (nI (k - (zb G k)))), (0, .ref h0), (1, .int (nI k))]) hx hb d_M_cut_21 rfl hl (by decide) rfl (fun ls hl => ?_)
    refine lv_aload_n hx hb d_M_cut_22 rfl (lv_at hl 1 rfl) ?_
    refine va_get (D := (dC, dI)) (ci := 1) (v := .ref h1) (C := RM) (T := TM) (N := 3) hx hb hts inM hown hK hP 0 rfl rfl 2 (by decide) (hts _ wl_M_13) (fun _ h9 => h9) rfl d_M_cut_23 ?_
    refine lv_iload_n hx hb d_M_cut_26 rfl (lv_at hl 2 rfl) ?_
    refine lv_iconst (v := nI 1) hx hb d_M_cut_27 (by decide) ?_
    refine va_zast hx hb hK hP hD hS 1 0 rfl rfl (vp_in_nI (by omega) (by decide)) d_M_cut_28 (fun H locs hP hD hS => ?_)
    rw [nI_clamp (by omega)] at hP hD
    rw [show vp_nar .boolean (nI 1) = nI 1 from by decide +kernel] at hP hD
    replace hP : va_P (dC, dI) vwCl [(h0, .inr (1, [.int (zv (!true)), .int (nI nn), .ref h1])), (h1, .inl (cA, 16385, .inl (upd F k (nI 1))))] H := hP
    replace hD : va_D A [(h0, .inr (1, [.int (zv (!true)), .int (nI nn), .ref h1])), (h1, .inl (cA, 16385, .inl (upd F k (nI 1))))] := hD
    refine lv_iload_n hx hb d_M_cut_29 rfl (lv_at hl 0 rfl) ?_
    exact W.iret (v := nI (k - (zb G k))) hx hb hr (fun t9 ht9 hW9 => ⟨⟨nI (k - (zb G k)), (true, upd F k (nI 1), upG G k true), rfl, ⟨MF_up (b := true) hF, Or.inl ⟨rfl, k, k1, rfl, rfl, rfl⟩⟩, by rw [ht9]; exact hP, va_K.moved hW9.alike hK, hD⟩, hS.F ht9⟩) hS.2.2 d_M_cut_30
  · have eb : bb = false := zv_f c1
    subst eb
    refine lv_iconst (v := nI 0) hx hb d_M_cut_12 (by decide) ?_
    exact W.iret (v := nI 0) hx hb hr (fun t9 ht9 hW9 => ⟨⟨nI 0, (false, F, G), rfl, ⟨hF, Or.inr ⟨rfl, hb2 rfl, rfl⟩⟩, by rw [ht9]; exact hP, va_K.moved hW9.alike hK, hD⟩, hS.F ht9⟩) hS.2.2 d_M_cut_13
set_option maxHeartbeats 4000000 in
set_option maxRecDepth 100000 in
/-- M_join -/
theorem cM_join (l : Launch) (dC : Nat → ClassId) (dI : Nat → Nat → Nat) (h0 h1 : Nat) (cA : ClassId) (sz : Nat) (F : Nat → Int32) (G : Nat → Bool) (nn : Nat) (th : Int32) (hF : MF F G) (x : Int32) (g1 : nn ≤ 16384) (g2 : G 0 = true) (g3 : G nn = true) : Met l y_M_join ws_M_join ({ frames := 1, cells := 0, slots := 0, locals := 22 }) (va_Pc [.ref h0, .int x] (cc_P (dC, dI) vwCl (wM h0 h1 cA th (nI nn) F) (tM cA) sz)) (va_Qi (S := Bool × (Nat → Int32) × (Nat → Bool)) (fun (r : Int32) (u : Bool × (Nat → Int32) × (Nat → Bool)) => MF u.2.1 u.2.2 ∧ ((u.1 = true ∧ ∃ k, k < nn ∧ x = nI k ∧ ((zn G nn (k + 1) = nn ∧ r = nI 0 ∧ u.2.2 = G) ∨ (zn G nn (k + 1) < nn ∧ r = nI (zn (upG G (zn G nn (k + 1)) false) nn (k + 1) - zb (upG G (zn G nn (k + 1)) false) k) ∧ u.2.2 = upG G (zn G nn (k + 1)) false))) ∨ (u.1 = false ∧ (¬ ∃ k, k < nn ∧ x = nI k) ∧ u.2.2 = G))) (fun u t => cc_B (dC, dI) vwCl (tM cA) (va_A (wM h0 h1 cA th (nI nn) F) sz) ((fun u : Bool × (Nat → Int32) × (Nat → Bool) => (wM h0 h1 cA (zv (!u.1)) (nI nn) u.2.1)) u) t) (va_A (wM h0 h1 cA th (nI nn) F) sz)) 0 0 (va_A (wM h0 h1 cA th (nI nn) F) sz) := by
  refine Met.ofW (cc := c_M_join) (maxL := 3) (ret := (some .int)) (by decide) rfl ?_
  intro p e s m args below meth c s₁ B hml hv
  obtain ⟨rfl, hsz, hP, hK, hD0⟩ := hv
  have hx := B.exec
  have hb := B.bytes
  have hr := B.returns
  have hts : ∀ w ∈ zAll, w.before _ s = true := fun w h => atoms_spec (ws := ws_M_join) B.pre w (List.mem_cons_of_mem _ h)
  have hown : s.vm.findClass RM = some m.cls := findClass_of_methodNamed B.named
  have hlocks := B.notSynchronized
  subst hsz
  have hD := hD0.self (sz := s.heap.size)
  generalize hAe : va_A (wM h0 h1 cA th (nI nn) F) s.heap.size = A at hD ⊢
  have hA : ∀ q : Nat, s.heap.size ≤ q → A q := fun q h => by rw [← hAe]; exact Or.inr h
  have hS : va_S A s.heap s.heap [] := va_S.rf
  replace hP : va_P (dC, dI) vwCl [(h0, .inr (1, [.int th, .int (nI nn), .ref h1])), (h1, .inl (cA, 16385, .inl F))] s.heap := hP
  replace hD : va_D A [(h0, .inr (1, [.int th, .int (nI nn), .ref h1])), (h1, .inl (cA, 16385, .inl F))] := hD
  have hl := lv_entry ([.ref h0, .int x]) (n := 3) (Nat.le_of_ble_eq_true rfl)
  rw [lg_entry_eq]
  generalize (lg_sl ([.ref h0, .int x]) ++ List.replicate (3 - (lg_sl ([.ref h0, .int x])).length) Slot.unset).toArray = ls at hl ⊢
  replace hl : lv_has ls 3 [(0, .ref h0), (1, .int x)] := hl
  refine lv_aload_n hx hb d_M_join_0 rfl (lv_at hl 0 rfl) ?_
  refine lv_aload_n hx hb d_M_join_1 rfl (lv_at hl 0 rfl) ?_
  refine lv_iload_n hx hb d_M_join_2 rfl (lv_at hl 1 rfl) ?_
  refine cc_Vi (wc := [(h0, .inr (1, [.int th, .int (nI nn), .ref h1])), (h1, .inl (cA, 16385, .inl F))]) (wr := []) (tys' := [(cA, .boolean)]) ⟨hx, hb, hml, hown, hts⟩ hP hD hK hS hA [0, 1] [] [0] rfl rfl rfl (by decide) (by decide) (by decide) rfl (cM_isCell l dC dI h0 h1 cA _ F G nn th hF x g1) (cwV 1 hts g_M_28 rfl rfl rfl (by decide +kernel) ⟨Nat.le_of_ble_eq_true rfl, Nat.le_of_ble_eq_true rfl⟩) 0 1 rfl rfl rfl rfl hl.1 rfl (Nat.le_of_ble_eq_true rfl) d_M_join_3 ⟨Nat.le_of_ble_eq_true rfl, Nat.le_of_ble_eq_true rfl⟩ (fun r_9 bb H locs hw hP hD hS => ?_)
  replace hP : va_P (dC, dI) vwCl [(h0, .inr (1, [.int th, .int (nI nn), .ref h1])), (h1, .inl (cA, 16385, .inl F))] H := hP
  replace hD : va_D A [(h0, .inr (1, [.int th, .int (nI nn), .ref h1])), (h1, .inl (cA, 16385, .inl F))] := hD
  obtain ⟨rfl, hb1, hb2⟩ := hw
  refine cc_Vi (wc := [(h0, .inr (1, [.int th, .int (nI nn), .ref h1])), (h1, .inl (cA, 16385, .inl F))]) (wr := []) (tys' := [(cA, .boolean)]) ⟨hx, hb, hml, hown, hts⟩ hP hD hK hS hA [0, 1] [] [0] rfl rfl rfl (by decide) (by decide) (by decide) rfl (cM_goes l dC dI h0 h1 cA _ F G nn th hF bb) (cwV 1 hts g_M_24 rfl rfl rfl (by decide +kernel) ⟨Nat.le_of_ble_eq_true rfl, Nat.le_of_ble_eq_true rfl⟩) 0 1 rfl rfl rfl rfl hl.1 rfl (Nat.le_of_ble_eq_true rfl) d_M_join_6 ⟨Nat.le_of_ble_eq_true rfl, Nat.le_of_ble_eq_true rfl⟩ (fun r_9 u9 H locs hw9 hP hD hS => ?_)
  replace hP : va_P (dC, dI) vwCl [(h0, .inr (1, [.int (zv (!bb)), .int (nI nn), .ref h1])), (h1, .inl (cA, 16385, .inl F))] H := hP
  replace hD : va_D A [(h0, .inr (1, [.int (zv (!bb)), .int (nI nn), .ref h1])), (h1, .inl (cA, 16385, .inl F))] := hD
  subst hw9
  refine lv_if_ne (tgt := 14) hx hb d_M_join_9 (by decide) (fun c1 => ?_) (fun c1 => ?_)
  · have eb : bb = true := zv_t c1
    subst eb
    obtain ⟨k, k1, rfl⟩ := hb1 rfl
    refine lv_aload_n hx hb d_M_join_14 rfl (lv_at hl 0 rfl) ?_
    refine lv_iload_n hx hb d_M_join_15 rfl (lv_at hl 1 rfl) ?_
    refine cc_Vi (wc := [(h0, .inr (1, [.int (zv (!true)), .int (nI nn), .ref h1])), (h1, .inl (cA, 16385, .inl F))]) (wr := []) (tys' := [(cA, .boolean)]) ⟨hx, hb, hml, hown, hts⟩ hP hD hK hS hA [0, 1] [] [0] rfl rfl rfl (by decide) (by decide) (by decide) rfl (cM_behind l dC dI h0 h1 cA _ F G nn (zv (!true)) hF k (by omega) g1 g3) (cwV 1 hts g_M_36 rfl rfl rfl (by decide +kernel) ⟨Nat.le_of_ble_eq_true rfl, Nat.le_of_ble_eq_true rfl⟩) 0 1 rfl rfl rfl rfl hl.1 rfl (Nat.le_of_ble_eq_true rfl) d_M_join_16 ⟨Nat.le_of_ble_eq_true rfl, Nat.le_of_ble_eq_true rfl⟩ (fun r_9 u H locs hw hP hD hS => ?_)
    replace hP : va_P (dC, dI) vwCl [(h0, .inr (1, [.int (zv (!true)), .int (nI nn), .ref h1])), (h1, .inl (cA, 16385, .inl F))] H := hP
    replace hD : va_D A [(h0, .inr (1, [.int (zv (!true)), .int (nI nn), .ref h1])), (h1, .inl (cA, 16385, .inl F))] := hD
    subst hw
    have zg1 := zn_ge G nn (k + 1)
    have zh1 : zn G nn (k + 1) ≤ nn := zn_le (by omega)
    refine lv_istore_n (lv' := [(2, .int (nI (zn G nn (k + 1)))), (0, .ref h0), (1, .int (nI k))]) hx hb d_M_join_19 rfl hl (by decide) rfl (fun ls hl => ?_)
    refine lv_iload_n hx hb d_M_join_20 rfl (lv_at hl 0 rfl) ?_
    refine lv_aload_n hx hb d_M_join_21 rfl (lv_at hl 1 rfl) ?_
    refine va_get (D := (dC, dI)) (ci := 1) (v := .int (nI nn)) (C := RM) (T := TM) (N := 3) hx hb hts inM hown hK hP 0 rfl rfl 1 (by decide) (hts _ wl_M_7) (fun _ h9 => h9) rfl d_M_join_22 ?_
    refine lv_icmp_ne (tgt := 30) hx hb d_M_join_25 (by decide) (fun c2 => ?_) (fun c2 => ?_)
    · replace c2 : ¬ (zn G nn (k + 1) = nn) := fun h9 => c2 ((nI_eq (a := zn G nn (k + 1)) (b := nn) (by omega) (by omega)).mpr h9)
      refine lv_aload_n hx hb d_M_join_30 rfl (lv_at hl 1 rfl) ?_
      refine va_get (D := (dC, dI)) (ci := 1) (v := .ref h1) (C := RM) (T := TM) (N := 3) hx hb hts inM hown hK hP 0 rfl rfl 2 (by decide) (hts _ wl_M_13) (fun _ h9 => h9) rfl d_M_join_31 ?_
      refine lv_iload_n hx hb d_M_join_34 rfl (lv_at hl 0 rfl) ?_
      refine lv_iconst (v := nI 0) hx hb d_M_join_35 (by decide) ?_
      refine va_zast hx hb hK hP hD hS 1 0 rfl rfl (vp_in_nI (by omega) (by decide)) d_M_join_36 (fun H locs hP hD hS => ?_)
      rw [nI_clamp (by omega)] at hP hD
      rw [show vp_nar .boolean (nI 0) = nI 0 from by decide +kernel] at hP hD
      replace hP : va_P (dC, dI) vwCl [(h0, .inr (1, [.int (zv (!true)), .int (nI nn), .ref h1])), (h1, .inl (cA, 16385, .inl (upd F (zn G nn (k + 1)) (nI 0))))] H := hP
      replace hD : va_D A [(h0, .inr (1, [.int (zv (!true)), .int (nI nn), .ref h1])), (h1, .inl (cA, 16385, .inl (upd F (zn G nn (k + 1)) (nI 0))))] := hD
      refine lv_aload_n hx hb d_M_join_37 rfl (lv_at hl 1 rfl) ?_
      refine lv_iload_n hx hb d_M_join_38 rfl (lv_at hl 2 rfl) ?_
      have hF2 : MF (upd F (zn G nn (k + 1)) (nI 0)) (upG G (zn G nn (k + 1)) false) := MF_up (b := false) hF
      refine cc_Vi (wc := [(h0, .inr (1, [.int (zv (!true)), .int (nI nn), .ref h1])), (h1, .inl (cA, 16385, .inl (upd F (zn G nn (k + 1)) (nI 0))))]) (wr := []) (tys' := [(cA, .boolean)]) ⟨hx, hb, hml, hown, hts⟩ hP hD hK hS hA [0, 1] [] [0] rfl rfl rfl (by decide) (by decide) (by decide) rfl (cM_behind l dC dI h0 h1 cA _ (upd F (zn G nn (k + 1)) (nI 0)) (upG G (zn G nn (k + 1)) false) nn (zv (!true)) hF2 k k1 g1 (by rw [upG_ne (by omega)]; exact g3)) (cwV 1 hts g_M_36 rfl rfl rfl (by decide +kernel) ⟨Nat.le_of_ble_eq_true rfl, Nat.le_of_ble_eq_true rfl⟩) 0 1 rfl rfl rfl rfl hl.1 rfl (Nat.le_of_ble_eq_true rfl) d_M_join_39 ⟨Nat.le_of_ble_eq_true rfl, Nat.le_of_ble_eq_true rfl⟩ (fun r_9 u H locs hw hP hD hS => ?_)
      replace hP : va_P (dC, dI) vwCl [(h0, .inr (1, [.int (zv (!true)), .int (nI nn), .ref h1])), (h1, .inl (cA, 16385, .inl (upd F (zn G nn (k + 1)) (nI 0))))] H := hP
      replace hD : va_D A [(h0, .inr (1, [.int (zv (!true)), .int (nI nn), .ref h1])), (h1, .inl (cA, 16385, .inl (upd F (zn G nn (k + 1)) (nI 0))))] := hD
      subst hw
      have zg2 := zn_ge (upG G (zn G nn (k + 1)) false) nn (k + 1)
      have zh2 : zn (upG G (zn G nn (k + 1)) false) nn (k + 1) ≤ nn := zn_le (by omega)
      refine lv_aload_n hx hb d_M_join_42 rfl (lv_at hl 1 rfl) ?_
      refine lv_iload_n hx hb d_M_join_43 rfl (lv_at hl 2 rfl) ?_
      refine cc_Vi (wc := [(h0, .inr (1, [.int (zv (!true)), .int (nI nn), .ref h1])), (h1, .inl (cA, 16385, .inl (upd F (zn G nn (k + 1)) (nI 0))))]) (wr := []) (tys' := [(cA, .boolean)]) ⟨hx, hb, hml, hown, hts⟩ hP hD hK hS hA [0, 1] [] [0] rfl rfl rfl (by decide) (by decide) (by decide) rfl (cM_from l dC dI h0 h1 cA _ (upd F (zn G nn (k + 1)) (nI 0)) (upG G (zn G nn (k + 1)) false) nn (zv (!true)) hF2 k (by omega) (by rw [upG_ne (by omega)]; exact g2)) (cwV 1 hts g_M_32 rfl rfl rfl (by decide +kernel) ⟨Nat.le_of_ble_eq_true rfl, Nat.le_of_ble_eq_true rfl⟩) 0 1 rfl rfl rfl rfl hl.1 rfl (Nat.le_of_ble_eq_true rfl) d_M_join_44 ⟨Nat.le_of_ble_eq_true rfl, Nat.le_of_ble_eq_true rfl⟩ (fun r_9 u H locs hw hP hD hS => ?_)
      replace hP : va_P (dC, dI) vwCl [(h0, .inr (1, [.int (zv (!true)), .int (nI nn), .ref h1])), (h1, .inl (cA, 16385, .inl (upd F (zn G nn (k + 1)) (nI 0))))] H := hP
      replace hD : va_D A [(h0, .inr (1, [.int (zv (!true)), .int (nI nn), .ref h1])), (h1, .inl (cA, 16385, .inl (upd F (zn G nn (k + 1)) (nI 0))))] := hD
      subst hw
      have zl := zb_le (upG G (zn G nn (k + 1)) false) k
      refine lv_isub hx hb d_M_join_47 ?_
      refine lv_topi (nm_r (show _ = nI ((zn (upG G (zn G nn (k + 1)) false) nn (k + 1)) - (zb (upG G (zn G nn (k + 1)) false) k)) from pk_sub (by omega)) ?_)
      exact W.iret (v := nI ((zn (upG G (zn G nn (k + 1)) false) nn (k + 1)) - (zb (upG G (zn G nn (k + 1)) false) k))) hx hb hr (fun t9 ht9 hW9 => ⟨⟨nI ((zn (upG G (zn G nn (k + 1)) false) nn (k + 1)) - (zb (upG G (zn G nn (k + 1)) false) k)), (true, upd F (zn G nn (k + 1)) (nI 0), upG G (zn G nn (k + 1)) false), rfl, ⟨hF2, Or.inl ⟨rfl, k, k1, rfl, Or.inr ⟨by omega, rfl, rfl⟩⟩⟩, by rw [ht9]; exact hP, va_K.moved hW9.alike hK, hD⟩, hS.F ht9⟩) hS.2.2 d_M_join_48
    · replace c2 : zn G nn (k + 1) = nn := (nI_eq (a := zn G nn (k + 1)) (b := nn) (by omega) (by omega)).mp c2
      refine lv_iconst (v := nI 0) hx hb d_M_join_28 (by decide) ?_
      exact W.iret (v := nI 0) hx hb hr (fun t9 ht9 hW9 => ⟨⟨nI 0, (true, F, G), rfl, ⟨hF, Or.inl ⟨rfl, k, k1, rfl, Or.inl ⟨c2, rfl, rfl⟩⟩⟩, by rw [ht9]; exact hP, va_K.moved hW9.alike hK, hD⟩, hS.F ht9⟩) hS.2.2 d_M_join_29
  · have eb : bb = false := zv_f c1
    subst eb
    refine lv_iconst (v := nI 0) hx hb d_M_join_12 (by decide) ?_
    exact W.iret (v := nI 0) hx hb hr (fun t9 ht9 hW9 => ⟨⟨nI 0, (false, F, G), rfl, ⟨hF, Or.inr ⟨rfl, hb2 rfl, rfl⟩⟩, by rw [ht9]; exact hP, va_K.moved hW9.alike hK, hD⟩, hS.F ht9⟩) hS.2.2 d_M_join_13
set_option maxHeartbeats 4000000 in
set_option maxRecDepth 100000 in
/-- M_begins -/
theorem cM_begins (l : Launch) (dC : Nat → ClassId) (dI : Nat → Nat → Nat) (h0 h1 : Nat) (cA : ClassId) (sz : Nat) (F : Nat → Int32) (G : Nat → Bool) (nn : Nat) (th : Int32) (hF : MF F G) (x : Int32) (g1 : nn ≤ 16384) (g2 : G 0 = true) (g3 : G nn = true) : Met l y_M_begins ws_M_begins ({ frames := 2, cells := 0, slots := 0, locals := 41 }) (va_Pc [.ref h0, .int x] (cc_P (dC, dI) vwCl (wM h0 h1 cA th (nI nn) F) (tM cA) sz)) (va_Qi (S := Bool × (Nat → Int32) × (Nat → Bool)) (fun (r : Int32) (u : Bool × (Nat → Int32) × (Nat → Bool)) => MF u.2.1 u.2.2 ∧ ((u.1 = true ∧ ∃ k, k < (nn + 31) / 32 ∧ x = nI k ∧ r = nI (zc (fun j => G (32 * k + j)) (min 32 (nn - 32 * k))) ∧ u.2.2 = G) ∨ (u.1 = false ∧ (¬ ∃ k, k < (nn + 31) / 32 ∧ x = nI k) ∧ u.2.2 = G))) (fun u t => cc_B (dC, dI) vwCl (tM cA) (va_A (wM h0 h1 cA th (nI nn) F) sz) ((fun u : Bool × (Nat → Int32) × (Nat → Bool) => (wM h0 h1 cA (zv (!u.1)) (nI nn) u.2.1)) u) t) (va_A (wM h0 h1 cA th (nI nn) F) sz)) 0 0 (va_A (wM h0 h1 cA th (nI nn) F) sz) := by
  refine Met.ofW (cc := c_M_begins) (maxL := 4) (ret := (some .int)) (by decide) rfl ?_
  intro p e s m args below meth c s₁ B hml hv
  obtain ⟨rfl, hsz, hP, hK, hD0⟩ := hv
  have hx := B.exec
  have hb := B.bytes
  have hr := B.returns
  have hts : ∀ w ∈ zAll, w.before _ s = true := fun w h => atoms_spec (ws := ws_M_begins) B.pre w (List.mem_cons_of_mem _ h)
  have hown : s.vm.findClass RM = some m.cls := findClass_of_methodNamed B.named
  have hlocks := B.notSynchronized
  subst hsz
  have hD := hD0.self (sz := s.heap.size)
  generalize hAe : va_A (wM h0 h1 cA th (nI nn) F) s.heap.size = A at hD ⊢
  have hA : ∀ q : Nat, s.heap.size ≤ q → A q := fun q h => by rw [← hAe]; exact Or.inr h
  have hS : va_S A s.heap s.heap [] := va_S.rf
  replace hP : va_P (dC, dI) vwCl [(h0, .inr (1, [.int th, .int (nI nn), .ref h1])), (h1, .inl (cA, 16385, .inl F))] s.heap := hP
  replace hD : va_D A [(h0, .inr (1, [.int th, .int (nI nn), .ref h1])), (h1, .inl (cA, 16385, .inl F))] := hD
  have hl := lv_entry ([.ref h0, .int x]) (n := 4) (Nat.le_of_ble_eq_true rfl)
  rw [lg_entry_eq]
  generalize (lg_sl ([.ref h0, .int x]) ++ List.replicate (4 - (lg_sl ([.ref h0, .int x])).length) Slot.unset).toArray = ls at hl ⊢
  replace hl : lv_has ls 4 [(0, .ref h0), (1, .int x)] := hl
  refine lv_aload_n hx hb d_M_begins_0 rfl (lv_at hl 0 rfl) ?_
  refine lv_aload_n hx hb d_M_begins_1 rfl (lv_at hl 0 rfl) ?_
  refine lv_iload_n hx hb d_M_begins_2 rfl (lv_at hl 1 rfl) ?_
  refine cc_Vi (wc := [(h0, .inr (1, [.int th, .int (nI nn), .ref h1])), (h1, .inl (cA, 16385, .inl F))]) (wr := []) (tys' := [(cA, .boolean)]) ⟨hx, hb, hml, hown, hts⟩ hP hD hK hS hA [0, 1] [] [0] rfl rfl rfl (by decide) (by decide) (by decide) rfl (cM_isCard l dC dI h0 h1 cA _ F G nn th hF x g1) (cwV 1 hts g_M_42 rfl rfl rfl (by decide +kernel) ⟨Nat.le_of_ble_eq_true rfl, Nat.le_of_ble_eq_true rfl⟩) 0 1 rfl rfl rfl rfl hl.1 rfl (Nat.le_of_ble_eq_true rfl) d_M_begins_3 ⟨Nat.le_of_ble_eq_true rfl, Nat.le_of_ble_eq_true rfl⟩ (fun r_9 bb H locs hw hP hD hS => ?_)
  replace hP : va_P (dC, dI) vwCl [(h0, .inr (1, [.int th, .int (nI nn), .ref h1])), (h1, .inl (cA, 16385, .inl F))] H := hP
  replace hD : va_D A [(h0, .inr (1, [.int th, .int (nI nn), .ref h1])), (h1, .inl (cA, 16385, .inl F))] := hD
  obtain ⟨rfl, hb1, hb2⟩ := hw
  refine cc_Vi (wc := [(h0, .inr (1, [.int th, .int (nI nn), .ref h1])), (h1, .inl (cA, 16385, .inl F))]) (wr := []) (tys' := [(cA, .boolean)]) ⟨hx, hb, hml, hown, hts⟩ hP hD hK hS hA [0, 1] [] [0] rfl rfl rfl (by decide) (by decide) (by decide) rfl (cM_goes l dC dI h0 h1 cA _ F G nn th hF bb) (cwV 1 hts g_M_24 rfl rfl rfl (by decide +kernel) ⟨Nat.le_of_ble_eq_true rfl, Nat.le_of_ble_eq_true rfl⟩) 0 1 rfl rfl rfl rfl hl.1 rfl (Nat.le_of_ble_eq_true rfl) d_M_begins_6 ⟨Nat.le_of_ble_eq_true rfl, Nat.le_of_ble_eq_true rfl⟩ (fun r_9 u9 H locs hw9 hP hD hS => ?_)
  replace hP : va_P (dC, dI) vwCl [(h0, .inr (1, [.int (zv (!bb)), .int (nI nn), .ref h1])), (h1, .inl (cA, 16385, .inl F))] H := hP
  replace hD : va_D A [(h0, .inr (1, [.int (zv (!bb)), .int (nI nn), .ref h1])), (h1, .inl (cA, 16385, .inl F))] := hD
  subst hw9
  refine lv_if_ne (tgt := 14) hx hb d_M_begins_9 (by decide) (fun c1 => ?_) (fun c1 => ?_)
  · have eb : bb = true := zv_t c1
    subst eb
    obtain ⟨k, k1, rfl⟩ := hb1 rfl
    refine lv_iconst (v := nI 0) hx hb d_M_begins_14 (by decide) ?_
    refine lv_istore_n (lv' := [(2, .int (nI 0)), (0, .ref h0), (1, .int (nI k))]) hx hb d_M_begins_15 rfl hl (by decide) rfl (fun ls hl => ?_)
    refine lv_bipush (v := nI 32) hx hb d_M_begins_16 (by decide) ?_
    refine lv_iload_n hx hb d_M_begins_18 rfl (lv_at hl 2 rfl) ?_
    refine lv_imul hx hb d_M_begins_19 ?_
    refine lv_topi (nm_r (show _ = nI (32 * k) from pk_mul _ _) ?_)
    refine lv_istore_n (lv' := [(3, .int (nI (32 * k))), (2, .int (nI 0)), (0, .ref h0), (1, .int (nI k))]) hx hb d_M_begins_20 rfl hl (by decide) rfl (fun ls hl => ?_)
    refine cc_from hP hD hS (fun H locs hP hD hS => ?_)
    obtain ⟨ci, e_ci⟩ : ∃ ci : Nat, ci = 0 := ⟨_, rfl⟩
    obtain ⟨q, e_q⟩ : ∃ q : Nat, q = 0 := ⟨_, rfl⟩
    replace hl : lv_has ls 4 [(0, .ref h0), (1, .int (nI k)), (2, .int (nI q)), (3, .int (nI (32 * k + ci)))] := by (subst e_ci; subst e_q; exact lv_sub hl [2, 3, 1, 0] rfl)
    have j1 : ci ≤ 32 := by (subst e_ci; subst e_q; exact Nat.zero_le _)
    have j3 : 32 * k + ci ≤ nn := by (subst e_ci; subst e_q; omega)
    have j2 : q = zc (fun j => G (32 * k + j)) ci := by (subst e_ci; subst e_q; rfl)
    clear e_ci e_q
    obtain ⟨f9, hf9⟩ : ∃ f9 : Nat, 32 - ci < f9 := ⟨_, Nat.lt_succ_self _⟩
    induction f9 generalizing ls H locs ci q with
    | zero => exact absurd hf9 (Nat.not_lt_zero _)
    | succ f9 ih =>
      have kq := zc_le (fun j => G (32 * k + j)) ci
      refine lv_iload_n hx hb d_M_begins_21 rfl (lv_at hl 3 rfl) ?_
      refine lv_bipush (v := nI 32) hx hb d_M_begins_22 (by decide) ?_
      refine lv_iload_n hx hb d_M_begins_24 rfl (lv_at hl 1 rfl) ?_
      refine lv_imul hx hb d_M_begins_25 ?_
      refine lv_topi (nm_r (show _ = nI (32 * k) from pk_mul _ _) ?_)
      refine lv_bipush (v := nI 32) hx hb d_M_begins_26 (by decide) ?_
      refine lv_iadd hx hb d_M_begins_28 ?_
      refine lv_topi (nm_r (show _ = nI ((32 * k) + 32) from nI_add _ _) ?_)
      refine lv_icmp_ge (tgt := 63) hx hb d_M_begins_29 (by decide) (fun c2 => ?_) (fun c2 => ?_)
      · replace c2 : (32 * k) + 32 ≤ 32 * k + ci := (nI_leI (a := (32 * k) + 32) (b := 32 * k + ci) (by omega) (by omega)).mp c2
        have ee : ci = min 32 (nn - 32 * k) := by omega
        refine lv_iload_n hx hb d_M_begins_63 rfl (lv_at hl 2 rfl) ?_
        exact W.iret (v := nI q) hx hb hr (fun t9 ht9 hW9 => ⟨⟨nI q, (true, F, G), rfl, ⟨hF, Or.inl ⟨rfl, k, k1, rfl, by rw [← ee, ← j2], rfl⟩⟩, by rw [ht9]; exact hP, va_K.moved hW9.alike hK, hD⟩, hS.F ht9⟩) hS.2.2 d_M_begins_64
      · replace c2 : ¬ ((32 * k) + 32 ≤ 32 * k + ci) := fun h9 => c2 ((nI_leI (a := (32 * k) + 32) (b := 32 * k + ci) (by omega) (by omega)).mpr h9)
        refine lv_iload_n hx hb d_M_begins_32 rfl (lv_at hl 3 rfl) ?_
        refine lv_aload_n hx hb d_M_begins_33 rfl (lv_at hl 0 rfl) ?_
        refine va_get (D := (dC, dI)) (ci := 1) (v := .int (nI nn)) (C := RM) (T := TM) (N := 3) hx hb hts inM hown hK hP 0 rfl rfl 1 (by decide) (hts _ wl_M_7) (fun _ h9 => h9) rfl d_M_begins_34 ?_
        refine lv_icmp_ge (tgt := 63) hx hb d_M_begins_37 (by decide) (fun c3 => ?_) (fun c3 => ?_)
        · replace c3 : nn ≤ 32 * k + ci := (nI_leI (a := nn) (b := 32 * k + ci) (by omega) (by omega)).mp c3
          have ee : ci = min 32 (nn - 32 * k) := by omega
          refine lv_iload_n hx hb d_M_begins_63 rfl (lv_at hl 2 rfl) ?_
          exact W.iret (v := nI q) hx hb hr (fun t9 ht9 hW9 => ⟨⟨nI q, (true, F, G), rfl, ⟨hF, Or.inl ⟨rfl, k, k1, rfl, by rw [← ee, ← j2], rfl⟩⟩, by rw [ht9]; exact hP, va_K.moved hW9.alike hK, hD⟩, hS.F ht9⟩) hS.2.2 d_M_begins_64
        · replace c3 : ¬ (nn ≤ 32 * k + ci) := fun h9 => c3 ((nI_leI (a := nn) (b := 32 * k + ci) (by omega) (by omega)).mpr h9)
          refine lv_aload_n hx hb d_M_begins_40 rfl (lv_at hl 0 rfl) ?_
          refine va_get (D := (dC, dI)) (ci := 1) (v := .ref h1) (C := RM) (T := TM) (N := 3) hx hb hts inM hown hK hP 0 rfl rfl 2 (by decide) (hts _ wl_M_13) (fun _ h9 => h9) rfl d_M_begins_41 ?_
          refine lv_iload_n hx hb d_M_begins_44 rfl (lv_at hl 3 rfl) ?_
          refine va_zald hx hb hK hP 1 0 rfl rfl (vp_in_nI (by omega) (by decide)) d_M_begins_45 ?_
          refine lv_topi (nm_r (show _ = F (32 * k + ci) from by rw [nI_clamp (by omega)]) ?_)
          refine lv_if_eq (tgt := 55) hx hb d_M_begins_46 (by decide) (fun c4 => ?_) (fun c4 => ?_)
          · have gf : G (32 * k + ci) = false := zv_f (by rw [← hF (32 * k + ci) (by omega)]; exact c4)
            have j4 : q = zc (fun j => G (32 * k + j)) (ci + 1) := by (rw [zc_s, j2]; simp [gf])
            refine lv_iload_n hx hb d_M_begins_55 rfl (lv_at hl 2 rfl) ?_
            refine lv_istore_n (lv' := [(2, .int (nI q)), (0, .ref h0), (1, .int (nI k)), (3, .int (nI (32 * k + ci)))]) hx hb d_M_begins_56 rfl hl (by decide) rfl (fun ls hl => ?_)
            refine lv_iinc (v := nI ((32 * k + ci) + 1)) (lv' := [(3, .int (nI ((32 * k + ci) + 1))), (2, .int (nI q)), (0, .ref h0), (1, .int (nI k))]) hx hb d_M_begins_57 hl (k := 3) rfl (nI_1 _) (by decide) rfl (fun ls hl => ?_)
            refine lv_goto (tgt := 21) hx hb d_M_begins_60 (by decide) ?_
            rw [show 32 * k + ci + 1 = 32 * k + (ci + 1) from Nat.add_assoc _ _ _] at hl
            apply ih (ls := ls) (H := H) (locs := locs) (ci := ci + 1) (q := q) <;> first | assumption | exact lv_sub hl [2, 3, 1, 0] rfl | omega
          · have gt : G (32 * k + ci) = true := zv_t (by rw [← hF (32 * k + ci) (by omega)]; exact c4)
            have j4 : q + 1 = zc (fun j => G (32 * k + j)) (ci + 1) := by (rw [zc_s, j2]; simp [gt])
            refine lv_iload_n hx hb d_M_begins_49 rfl (lv_at hl 2 rfl) ?_
            refine lv_iconst (v := nI 1) hx hb d_M_begins_50 (by decide) ?_
            refine lv_iadd hx hb d_M_begins_51 ?_
            refine lv_topi (nm_r (show _ = nI (q + 1) from nI_add _ _) ?_)
            refine lv_goto (tgt := 56) hx hb d_M_begins_52 (by decide) ?_
            refine lv_istore_n (lv' := [(2, .int (nI (q + 1))), (0, .ref h0), (1, .int (nI k)), (3, .int (nI (32 * k + ci)))]) hx hb d_M_begins_56 rfl hl (by decide) rfl (fun ls hl => ?_)
            refine lv_iinc (v := nI ((32 * k + ci) + 1)) (lv' := [(3, .int (nI ((32 * k + ci) + 1))), (2, .int (nI (q + 1))), (0, .ref h0), (1, .int (nI k))]) hx hb d_M_begins_57 hl (k := 3) rfl (nI_1 _) (by decide) rfl (fun ls hl => ?_)
            refine lv_goto (tgt := 21) hx hb d_M_begins_60 (by decide) ?_
            rw [show 32 * k + ci + 1 = 32 * k + (ci + 1) from Nat.add_assoc _ _ _] at hl
            apply ih (ls := ls) (H := H) (locs := locs) (ci := ci + 1) (q := q + 1) <;> first | assumption | exact lv_sub hl [2, 3, 1, 0] rfl | omega
  · have eb : bb = false := zv_f c1
    subst eb
    refine lv_iconst (v := nI 0) hx hb d_M_begins_12 (by decide) ?_
    exact W.iret (v := nI 0) hx hb hr (fun t9 ht9 hW9 => ⟨⟨nI 0, (false, F, G), rfl, ⟨hF, Or.inr ⟨rfl, hb2 rfl, rfl⟩⟩, by rw [ht9]; exact hP, va_K.moved hW9.alike hK, hD⟩, hS.F ht9⟩) hS.2.2 d_M_begins_13
end
section
set_option maxHeartbeats 4000000 in
set_option maxRecDepth 100000 in
/-- space(x) -/
theorem cM_space (l : Launch) (dC : Nat → ClassId) (dI : Nat → Nat → Nat) (h0 h1 : Nat) (cA : ClassId) (sz : Nat) (F : Nat → Int32) (G : Nat → Bool) (nn : Nat) (th : Int32) (hF : MF F G) (x : Int32) (g1 : nn ≤ 16384) (g2 : G 0 = true) (g3 : G nn = true) : Met l y_M_space ws_M_space ({ frames := 1, cells := 0, slots := 0, locals := 21 }) (va_Pc [.ref h0, .int x] (cc_P (dC, dI) vwCl (wM h0 h1 cA th (nI nn) F) (tM cA) sz)) (va_Qi (S := Bool × Nat × (Nat → Int32) × (Nat → Bool)) (fun (r : Int32) (u : Bool × Nat × (Nat → Int32) × (Nat → Bool)) => MF u.2.2.1 u.2.2.2 ∧ ((u.1 = true ∧ x = nI u.2.1 ∧ 1 ≤ u.2.1 ∧ u.2.1 ≤ 16384 ∧ r = nI nn ∧ ∀ j, j < 16385 → u.2.2.2 j = decide (j = 0 ∨ j = u.2.1)) ∨ (u.1 = false ∧ ¬ (∃ k, x = nI k ∧ 1 ≤ k ∧ k ≤ 16384) ∧ u.2.1 = nn ∧ u.2.2.2 = G))) (fun u t => cc_B (dC, dI) vwCl (tM cA) (va_A (wM h0 h1 cA th (nI nn) F) sz) ((fun u : Bool × Nat × (Nat → Int32) × (Nat → Bool) => (wM h0 h1 cA (zv (!u.1)) (nI u.2.1) u.2.2.1)) u) t) (va_A (wM h0 h1 cA th (nI nn) F) sz)) 0 0 (va_A (wM h0 h1 cA th (nI nn) F) sz) := by
  refine Met.ofW (cc := c_M_space) (maxL := 4) (ret := (some .int)) (by decide) rfl ?_
  intro p e s m args below meth c s₁ B hml hv
  obtain ⟨rfl, hsz, hP, hK, hD0⟩ := hv
  have hx := B.exec
  have hb := B.bytes
  have hr := B.returns
  have hts : ∀ w ∈ zAll, w.before _ s = true := fun w h => atoms_spec (ws := ws_M_space) B.pre w (List.mem_cons_of_mem _ h)
  have hown : s.vm.findClass RM = some m.cls := findClass_of_methodNamed B.named
  have hlocks := B.notSynchronized
  subst hsz
  have hD := hD0.self (sz := s.heap.size)
  generalize hAe : va_A (wM h0 h1 cA th (nI nn) F) s.heap.size = A at hD ⊢
  have hA : ∀ q : Nat, s.heap.size ≤ q → A q := fun q h => by rw [← hAe]; exact Or.inr h
  have hS : va_S A s.heap s.heap [] := va_S.rf
  replace hP : va_P (dC, dI) vwCl [(h0, .inr (1, [.int th, .int (nI nn), .ref h1])), (h1, .inl (cA, 16385, .inl F))] s.heap := hP
  replace hD : va_D A [(h0, .inr (1, [.int th, .int (nI nn), .ref h1])), (h1, .inl (cA, 16385, .inl F))] := hD
  have hl := lv_entry ([.ref h0, .int x]) (n := 4) (Nat.le_of_ble_eq_true rfl)
  rw [lg_entry_eq]
  generalize (lg_sl ([.ref h0, .int x]) ++ List.replicate (4 - (lg_sl ([.ref h0, .int x])).length) Slot.unset).toArray = ls at hl ⊢
  replace hl : lv_has ls 4 [(0, .ref h0), (1, .int x)] := hl
  refine lv_aload_n hx hb d_M_space_0 rfl (lv_at hl 0 rfl) ?_
  refine lv_iload_n hx hb d_M_space_1 rfl (lv_at hl 1 rfl) ?_
  refine lv_iconst (v := nI 1) hx hb d_M_space_2 (by decide) ?_
  refine lv_icmp_lt (tgt := 17) hx hb d_M_space_3 (by decide) (fun c1 => ?_) (fun c1 => ?_)
  · refine lv_iconst (v := nI 0) hx hb d_M_space_17 (by decide) ?_
    refine cc_Vi (wc := [(h0, .inr (1, [.int th, .int (nI nn), .ref h1])), (h1, .inl (cA, 16385, .inl F))]) (wr := []) (tys' := [(cA, .boolean)]) ⟨hx, hb, hml, hown, hts⟩ hP hD hK hS hA [0, 1] [] [0] rfl rfl rfl (by decide) (by decide) (by decide) rfl (cM_goes l dC dI h0 h1 cA _ F G nn th hF false) (cwV 1 hts g_M_24 rfl rfl rfl (by decide +kernel) ⟨Nat.le_of_ble_eq_true rfl, Nat.le_of_ble_eq_true rfl⟩) 0 1 rfl rfl rfl rfl hl.1 rfl (Nat.le_of_ble_eq_true rfl) d_M_space_18 ⟨Nat.le_of_ble_eq_true rfl, Nat.le_of_ble_eq_true rfl⟩ (fun r_9 u9 H locs hw9 hP hD hS => ?_)
    replace hP : va_P (dC, dI) vwCl [(h0, .inr (1, [.int (zv (!false)), .int (nI nn), .ref h1])), (h1, .inl (cA, 16385, .inl F))] H := hP
    replace hD : va_D A [(h0, .inr (1, [.int (zv (!false)), .int (nI nn), .ref h1])), (h1, .inl (cA, 16385, .inl F))] := hD
    subst hw9
    refine lv_if_ne (tgt := 26) hx hb d_M_space_21 (by decide) (fun c9 => ?_) (fun c9 => ?_)
    · exact absurd rfl c9
    · refine lv_iconst (v := nI 0) hx hb d_M_space_24 (by decide) ?_
      exact W.iret (v := nI 0) hx hb hr (fun t9 ht9 hW9 => ⟨⟨nI 0, (false, nn, F, G), rfl, ⟨hF, Or.inr ⟨rfl, fun ⟨k, e1, e2, e3⟩ => by (rw [e1] at c1; exact nI_nlt e2 (by omega) c1), rfl, rfl⟩⟩, by rw [ht9]; exact hP, va_K.moved hW9.alike hK, hD⟩, hS.F ht9⟩) hS.2.2 d_M_space_25
  · refine lv_iload_n hx hb d_M_space_6 rfl (lv_at hl 1 rfl) ?_
    refine lv_sipush (v := nI 16384) hx hb d_M_space_7 (by decide) ?_
    refine lv_icmp_gt (tgt := 17) hx hb d_M_space_10 (by decide) (fun c2 => ?_) (fun c2 => ?_)
    · refine lv_iconst (v := nI 0) hx hb d_M_space_17 (by decide) ?_
      refine cc_Vi (wc := [(h0, .inr (1, [.int th, .int (nI nn), .ref h1])), (h1, .inl (cA, 16385, .inl F))]) (wr := []) (tys' := [(cA, .boolean)]) ⟨hx, hb, hml, hown, hts⟩ hP hD hK hS hA [0, 1] [] [0] rfl rfl rfl (by decide) (by decide) (by decide) rfl (cM_goes l dC dI h0 h1 cA _ F G nn th hF false) (cwV 1 hts g_M_24 rfl rfl rfl (by decide +kernel) ⟨Nat.le_of_ble_eq_true rfl, Nat.le_of_ble_eq_true rfl⟩) 0 1 rfl rfl rfl rfl hl.1 rfl (Nat.le_of_ble_eq_true rfl) d_M_space_18 ⟨Nat.le_of_ble_eq_true rfl, Nat.le_of_ble_eq_true rfl⟩ (fun r_9 u9 H locs hw9 hP hD hS => ?_)
      replace hP : va_P (dC, dI) vwCl [(h0, .inr (1, [.int (zv (!false)), .int (nI nn), .ref h1])), (h1, .inl (cA, 16385, .inl F))] H := hP
      replace hD : va_D A [(h0, .inr (1, [.int (zv (!false)), .int (nI nn), .ref h1])), (h1, .inl (cA, 16385, .inl F))] := hD
      subst hw9
      refine lv_if_ne (tgt := 26) hx hb d_M_space_21 (by decide) (fun c9 => ?_) (fun c9 => ?_)
      · exact absurd rfl c9
      · refine lv_iconst (v := nI 0) hx hb d_M_space_24 (by decide) ?_
        exact W.iret (v := nI 0) hx hb hr (fun t9 ht9 hW9 => ⟨⟨nI 0, (false, nn, F, G), rfl, ⟨hF, Or.inr ⟨rfl, fun ⟨k, e1, e2, e3⟩ => by (rw [e1] at c2; exact nI_nlt e3 (by omega) c2), rfl, rfl⟩⟩, by rw [ht9]; exact hP, va_K.moved hW9.alike hK, hD⟩, hS.F ht9⟩) hS.2.2 d_M_space_25
    · obtain ⟨k, k1, k2, rfl⟩ := z_spof2 c1 c2
      refine lv_iconst (v := nI 1) hx hb d_M_space_13 (by decide) ?_
      refine lv_goto (tgt := 18) hx hb d_M_space_14 (by decide) ?_
      refine cc_Vi (wc := [(h0, .inr (1, [.int th, .int (nI nn), .ref h1])), (h1, .inl (cA, 16385, .inl F))]) (wr := []) (tys' := [(cA, .boolean)]) ⟨hx, hb, hml, hown, hts⟩ hP hD hK hS hA [0, 1] [] [0] rfl rfl rfl (by decide) (by decide) (by decide) rfl (cM_goes l dC dI h0 h1 cA _ F G nn th hF true) (cwV 1 hts g_M_24 rfl rfl rfl (by decide +kernel) ⟨Nat.le_of_ble_eq_true rfl, Nat.le_of_ble_eq_true rfl⟩) 0 1 rfl rfl rfl rfl hl.1 rfl (Nat.le_of_ble_eq_true rfl) d_M_space_18 ⟨Nat.le_of_ble_eq_true rfl, Nat.le_of_ble_eq_true rfl⟩ (fun r_9 u9 H locs hw9 hP hD hS => ?_)
      replace hP : va_P (dC, dI) vwCl [(h0, .inr (1, [.int (zv (!true)), .int (nI nn), .ref h1])), (h1, .inl (cA, 16385, .inl F))] H := hP
      replace hD : va_D A [(h0, .inr (1, [.int (zv (!true)), .int (nI nn), .ref h1])), (h1, .inl (cA, 16385, .inl F))] := hD
      subst hw9
      refine lv_if_ne (tgt := 26) hx hb d_M_space_21 (by decide) (fun c9 => ?_) (fun c9 => ?_)
      · refine lv_aload_n hx hb d_M_space_26 rfl (lv_at hl 0 rfl) ?_
        refine va_get (D := (dC, dI)) (ci := 1) (v := .int (nI nn)) (C := RM) (T := TM) (N := 3) hx hb hts inM hown hK hP 0 rfl rfl 1 (by decide) (hts _ wl_M_7) (fun _ h9 => h9) rfl d_M_space_27 ?_
        refine lv_istore_n (lv' := [(2, .int (nI nn)), (0, .ref h0), (1, .int (nI k))]) hx hb d_M_space_30 rfl hl (by decide) rfl (fun ls hl => ?_)
        refine lv_iconst (v := nI 0) hx hb d_M_space_31 (by decide) ?_
        refine lv_istore_n (lv' := [(3, .int (nI 0)), (2, .int (nI nn)), (0, .ref h0), (1, .int (nI k))]) hx hb d_M_space_32 rfl hl (by decide) rfl (fun ls hl => ?_)
        refine cc_from hP hD hS (fun H locs hP hD hS => ?_)
        obtain ⟨ci, e_ci⟩ : ∃ ci : Nat, ci = 0 := ⟨_, rfl⟩
        obtain ⟨f, e_f⟩ : ∃ f : Nat → Int32, f = F := ⟨_, rfl⟩
        replace hl : lv_has ls 4 [(0, .ref h0), (1, .int (nI k)), (2, .int (nI nn)), (3, .int (nI ci))] := by (subst e_ci; subst e_f; exact lv_sub hl [2, 3, 1, 0] rfl)
        replace hP : va_P (dC, dI) vwCl [(h0, .inr (1, [.int (zv (!true)), .int (nI nn), .ref h1])), (h1, .inl (cA, 16385, .inl f))] H := by (subst e_ci; subst e_f; exact hP)
        replace hD : va_D A [(h0, .inr (1, [.int (zv (!true)), .int (nI nn), .ref h1])), (h1, .inl (cA, 16385, .inl f))] := by (subst e_ci; subst e_f; exact hD)
        have j1 : ci ≤ 16385 := by (subst e_ci; subst e_f; exact Nat.zero_le _)
        have j2 : ∀ j, j < ci → f j = zv (decide (j = 0 ∨ j = k)) := by (subst e_ci; subst e_f; exact fun j h => absurd h (Nat.not_lt_zero _))
        clear e_ci e_f
        obtain ⟨f9, hf9⟩ : ∃ f9 : Nat, 16385 - ci < f9 := ⟨_, Nat.lt_succ_self _⟩
        induction f9 generalizing ls H locs ci f with
        | zero => exact absurd hf9 (Nat.not_lt_zero _)
        | succ f9 ih =>
          refine lv_iload_n hx hb d_M_space_33 rfl (lv_at hl 3 rfl) ?_
          refine lv_sipush (v := nI 16384) hx hb d_M_space_34 (by decide) ?_
          refine lv_icmp_gt (tgt := 66) hx hb d_M_space_37 (by decide) (fun c2 => ?_) (fun c2 => ?_)
          · replace c2 : 16384 < ci := (nI_ltI (a := 16384) (b := ci) (by omega) (by omega)).mp c2
            refine lv_aload_n hx hb d_M_space_66 rfl (lv_at hl 0 rfl) ?_
            refine lv_iload_n hx hb d_M_space_67 rfl (lv_at hl 1 rfl) ?_
            refine va_put (D := (dC, dI)) (ci := 1) (v := .int (nI k)) (ty := .int) (C := RM) (T := TM) (N := 3) hx hb hts inM tyM tyM_ok nmM hown hK hP hD hS 0 rfl rfl 1 (by decide) (hts _ wl_M_7) (fun _ h9 => h9) rfl (by decide +kernel) rfl rfl (Nat.le_of_ble_eq_true rfl) d_M_space_68 (fun H locs hP hD hS => ?_)
            replace hP : va_P (dC, dI) vwCl [(h0, .inr (1, [.int (zv (!true)), .int (nI k), .ref h1])), (h1, .inl (cA, 16385, .inl f))] H := hP
            replace hD : va_D A [(h0, .inr (1, [.int (zv (!true)), .int (nI k), .ref h1])), (h1, .inl (cA, 16385, .inl f))] := hD
            refine lv_iload_n hx hb d_M_space_71 rfl (lv_at hl 2 rfl) ?_
            exact W.iret (v := nI nn) hx hb hr (fun t9 ht9 hW9 => ⟨⟨nI nn, (true, k, f, fun j => decide (j = 0 ∨ j = k)), rfl, ⟨fun j hj => j2 j (by omega), Or.inl ⟨rfl, rfl, k1, k2, rfl, fun j _ => rfl⟩⟩, by rw [ht9]; exact hP, va_K.moved hW9.alike hK, hD⟩, hS.F ht9⟩) hS.2.2 d_M_space_72
          · replace c2 : ¬ (16384 < ci) := fun h9 => c2 ((nI_ltI (a := 16384) (b := ci) (by omega) (by omega)).mpr h9)
            refine lv_aload_n hx hb d_M_space_40 rfl (lv_at hl 0 rfl) ?_
            refine va_get (D := (dC, dI)) (ci := 1) (v := .ref h1) (C := RM) (T := TM) (N := 3) hx hb hts inM hown hK hP 0 rfl rfl 2 (by decide) (hts _ wl_M_13) (fun _ h9 => h9) rfl d_M_space_41 ?_
            refine lv_iload_n hx hb d_M_space_44 rfl (lv_at hl 3 rfl) ?_
            refine lv_iload_n hx hb d_M_space_45 rfl (lv_at hl 3 rfl) ?_
            refine lv_if_eq (tgt := 54) hx hb d_M_space_46 (by decide) (fun c3 => ?_) (fun c3 => ?_)
            · replace c3 : ci = 0 := (nI_eq (a := ci) (b := 0) (by omega) (by omega)).mp c3
              have j3 : ∀ j, j < ci + 1 → upd f ci (nI 1) j = zv (decide (j = 0 ∨ j = k)) := fun j hj => by
                by_cases q : j = ci
                · rw [q, pk_us, decide_eq_true (by omega)]; rfl
                · rw [pk_un q]; exact j2 j (by omega)
              refine lv_iconst (v := nI 1) hx hb d_M_space_54 (by decide) ?_
              refine lv_goto (tgt := 59) hx hb d_M_space_55 (by decide) ?_
              refine va_zast hx hb hK hP hD hS 1 0 rfl rfl (vp_in_nI (by omega) (by decide)) d_M_space_59 (fun H locs hP hD hS => ?_)
              rw [nI_clamp (by omega)] at hP hD
              rw [show vp_nar .boolean (nI 1) = nI 1 from by decide +kernel] at hP hD
              replace hP : va_P (dC, dI) vwCl [(h0, .inr (1, [.int (zv (!true)), .int (nI nn), .ref h1])), (h1, .inl (cA, 16385, .inl (upd f ci (nI 1))))] H := hP
              replace hD : va_D A [(h0, .inr (1, [.int (zv (!true)), .int (nI nn), .ref h1])), (h1, .inl (cA, 16385, .inl (upd f ci (nI 1))))] := hD
              refine lv_iinc (v := nI (ci + 1)) (lv' := [(3, .int (nI (ci + 1))), (0, .ref h0), (1, .int (nI k)), (2, .int (nI nn))]) hx hb d_M_space_60 hl (k := 3) rfl (nI_1 _) (by decide) rfl (fun ls hl => ?_)
              refine lv_goto (tgt := 33) hx hb d_M_space_63 (by decide) ?_
              apply ih (ls := ls) (H := H) (locs := locs) (ci := ci + 1) (f := upd f ci (nI 1)) <;> first | assumption | exact lv_sub hl [1, 2, 3, 0] rfl | omega
            · replace c3 : ¬ (ci = 0) := fun h9 => c3 ((nI_eq (a := ci) (b := 0) (by omega) (by omega)).mpr h9)
              refine lv_iload_n hx hb d_M_space_49 rfl (lv_at hl 3 rfl) ?_
              refine lv_iload_n hx hb d_M_space_50 rfl (lv_at hl 1 rfl) ?_
              refine lv_icmp_ne (tgt := 58) hx hb d_M_space_51 (by decide) (fun c4 => ?_) (fun c4 => ?_)
              · replace c4 : ¬ (ci = k) := fun h9 => c4 ((nI_eq (a := ci) (b := k) (by omega) (by omega)).mpr h9)
                have j3 : ∀ j, j < ci + 1 → upd f ci (nI 0) j = zv (decide (j = 0 ∨ j = k)) := fun j hj => by
                  by_cases q : j = ci
                  · rw [q, pk_us, decide_eq_false (by omega)]; rfl
                  · rw [pk_un q]; exact j2 j (by omega)
                refine lv_iconst (v := nI 0) hx hb d_M_space_58 (by decide) ?_
                refine va_zast hx hb hK hP hD hS 1 0 rfl rfl (vp_in_nI (by omega) (by decide)) d_M_space_59 (fun H locs hP hD hS => ?_)
                rw [nI_clamp (by omega)] at hP hD
                rw [show vp_nar .boolean (nI 0) = nI 0 from by decide +kernel] at hP hD
                replace hP : va_P (dC, dI) vwCl [(h0, .inr (1, [.int (zv (!true)), .int (nI nn), .ref h1])), (h1, .inl (cA, 16385, .inl (upd f ci (nI 0))))] H := hP
                replace hD : va_D A [(h0, .inr (1, [.int (zv (!true)), .int (nI nn), .ref h1])), (h1, .inl (cA, 16385, .inl (upd f ci (nI 0))))] := hD
                refine lv_iinc (v := nI (ci + 1)) (lv' := [(3, .int (nI (ci + 1))), (0, .ref h0), (1, .int (nI k)), (2, .int (nI nn))]) hx hb d_M_space_60 hl (k := 3) rfl (nI_1 _) (by decide) rfl (fun ls hl => ?_)
                refine lv_goto (tgt := 33) hx hb d_M_space_63 (by decide) ?_
                apply ih (ls := ls) (H := H) (locs := locs) (ci := ci + 1) (f := upd f ci (nI 0)) <;> first | assumption | exact lv_sub hl [1, 2, 3, 0] rfl | omega
              · replace c4 : ci = k := (nI_eq (a := ci) (b := k) (by omega) (by omega)).mp c4
                have j3 : ∀ j, j < ci + 1 → upd f ci (nI 1) j = zv (decide (j = 0 ∨ j = k)) := fun j hj => by
                  by_cases q : j = ci
                  · rw [q, pk_us, decide_eq_true (by omega)]; rfl
                  · rw [pk_un q]; exact j2 j (by omega)
                refine lv_iconst (v := nI 1) hx hb d_M_space_54 (by decide) ?_
                refine lv_goto (tgt := 59) hx hb d_M_space_55 (by decide) ?_
                refine va_zast hx hb hK hP hD hS 1 0 rfl rfl (vp_in_nI (by omega) (by decide)) d_M_space_59 (fun H locs hP hD hS => ?_)
                rw [nI_clamp (by omega)] at hP hD
                rw [show vp_nar .boolean (nI 1) = nI 1 from by decide +kernel] at hP hD
                replace hP : va_P (dC, dI) vwCl [(h0, .inr (1, [.int (zv (!true)), .int (nI nn), .ref h1])), (h1, .inl (cA, 16385, .inl (upd f ci (nI 1))))] H := hP
                replace hD : va_D A [(h0, .inr (1, [.int (zv (!true)), .int (nI nn), .ref h1])), (h1, .inl (cA, 16385, .inl (upd f ci (nI 1))))] := hD
                refine lv_iinc (v := nI (ci + 1)) (lv' := [(3, .int (nI (ci + 1))), (0, .ref h0), (1, .int (nI k)), (2, .int (nI nn))]) hx hb d_M_space_60 hl (k := 3) rfl (nI_1 _) (by decide) rfl (fun ls hl => ?_)
                refine lv_goto (tgt := 33) hx hb d_M_space_63 (by decide) ?_
                apply ih (ls := ls) (H := H) (locs := locs) (ci := ci + 1) (f := upd f ci (nI 1)) <;> first | assumption | exact lv_sub hl [1, 2, 3, 0] rfl | omega
      · exact absurd c9 (by decide)
set_option maxHeartbeats 4000000 in
set_option maxRecDepth 100000 in
/-- M_make -/
theorem cM_make (l : Launch) (dC : Nat → ClassId) (dI : Nat → Nat → Nat) (h0 h1 : Nat) (cA : ClassId) (sz : Nat) (F : Nat → Int32) (G : Nat → Bool) (nn : Nat) (th : Int32) (hF : MF F G) (x z : Int32) (g1 : nn ≤ 16384) (g2 : G 0 = true) (g3 : G nn = true) : Met l y_M_make ws_M_make ({ frames := 1, cells := 0, slots := 0, locals := 22 }) (va_Pc [.ref h0, .int x, .int z] (cc_P (dC, dI) vwCl (wM h0 h1 cA th (nI nn) F) (tM cA) sz)) (va_Qi (S := Bool × (Nat → Int32) × (Nat → Bool)) (fun (r : Int32) (u : Bool × (Nat → Int32) × (Nat → Bool)) => MF u.2.1 u.2.2 ∧ ((u.1 = true ∧ ∃ a b, x = nI a ∧ z = nI b ∧ a < b ∧ b ≤ nn ∧ u.2.2 = (fun j => if a ≤ j ∧ j ≤ b then decide (j = a ∨ j = b) else G j) ∧ r = nI (zc u.2.2 nn)) ∨ (u.1 = false ∧ (¬ ∃ a b, x = nI a ∧ z = nI b ∧ a < b ∧ b ≤ nn) ∧ u.2.2 = G))) (fun u t => cc_B (dC, dI) vwCl (tM cA) (va_A (wM h0 h1 cA th (nI nn) F) sz) ((fun u : Bool × (Nat → Int32) × (Nat → Bool) => (wM h0 h1 cA (zv (!u.1)) (nI nn) u.2.1)) u) t) (va_A (wM h0 h1 cA th (nI nn) F) sz)) 0 0 (va_A (wM h0 h1 cA th (nI nn) F) sz) := by
  refine Met.ofW (cc := c_M_make) (maxL := 4) (ret := (some .int)) (by decide) rfl ?_
  intro p e s m args below meth c s₁ B hml hv
  obtain ⟨rfl, hsz, hP, hK, hD0⟩ := hv
  have hx := B.exec
  have hb := B.bytes
  have hr := B.returns
  have hts : ∀ w ∈ zAll, w.before _ s = true := fun w h => atoms_spec (ws := ws_M_make) B.pre w (List.mem_cons_of_mem _ h)
  have hown : s.vm.findClass RM = some m.cls := findClass_of_methodNamed B.named
  have hlocks := B.notSynchronized
  subst hsz
  have hD := hD0.self (sz := s.heap.size)
  generalize hAe : va_A (wM h0 h1 cA th (nI nn) F) s.heap.size = A at hD ⊢
  have hA : ∀ q : Nat, s.heap.size ≤ q → A q := fun q h => by rw [← hAe]; exact Or.inr h
  have hS : va_S A s.heap s.heap [] := va_S.rf
  replace hP : va_P (dC, dI) vwCl [(h0, .inr (1, [.int th, .int (nI nn), .ref h1])), (h1, .inl (cA, 16385, .inl F))] s.heap := hP
  replace hD : va_D A [(h0, .inr (1, [.int th, .int (nI nn), .ref h1])), (h1, .inl (cA, 16385, .inl F))] := hD
  have hl := lv_entry ([.ref h0, .int x, .int z]) (n := 4) (Nat.le_of_ble_eq_true rfl)
  rw [lg_entry_eq]
  generalize (lg_sl ([.ref h0, .int x, .int z]) ++ List.replicate (4 - (lg_sl ([.ref h0, .int x, .int z])).length) Slot.unset).toArray = ls at hl ⊢
  replace hl : lv_has ls 4 [(0, .ref h0), (1, .int x), (2, .int z)] := hl
  refine lv_aload_n hx hb d_M_make_0 rfl (lv_at hl 0 rfl) ?_
  refine lv_aload_n hx hb d_M_make_1 rfl (lv_at hl 0 rfl) ?_
  refine lv_iload_n hx hb d_M_make_2 rfl (lv_at hl 1 rfl) ?_
  refine cc_Vi (wc := [(h0, .inr (1, [.int th, .int (nI nn), .ref h1])), (h1, .inl (cA, 16385, .inl F))]) (wr := []) (tys' := [(cA, .boolean)]) ⟨hx, hb, hml, hown, hts⟩ hP hD hK hS hA [0, 1] [] [0] rfl rfl rfl (by decide) (by decide) (by decide) rfl (cM_isCell l dC dI h0 h1 cA _ F G nn th hF x g1) (cwV 1 hts g_M_28 rfl rfl rfl (by decide +kernel) ⟨Nat.le_of_ble_eq_true rfl, Nat.le_of_ble_eq_true rfl⟩) 0 1 rfl rfl rfl rfl hl.1 rfl (Nat.le_of_ble_eq_true rfl) d_M_make_3 ⟨Nat.le_of_ble_eq_true rfl, Nat.le_of_ble_eq_true rfl⟩ (fun r_9 bb H locs hw hP hD hS => ?_)
  replace hP : va_P (dC, dI) vwCl [(h0, .inr (1, [.int th, .int (nI nn), .ref h1])), (h1, .inl (cA, 16385, .inl F))] H := hP
  replace hD : va_D A [(h0, .inr (1, [.int th, .int (nI nn), .ref h1])), (h1, .inl (cA, 16385, .inl F))] := hD
  obtain ⟨rfl, hb1, hb2⟩ := hw
  refine lv_if_eq (tgt := 26) hx hb d_M_make_6 (by decide) (fun c0 => ?_) (fun c0 => ?_)
  · have eb : bb = false := zv_f c0
    subst eb
    refine lv_iconst (v := nI 0) hx hb d_M_make_26 (by decide) ?_
    refine cc_Vi (wc := [(h0, .inr (1, [.int th, .int (nI nn), .ref h1])), (h1, .inl (cA, 16385, .inl F))]) (wr := []) (tys' := [(cA, .boolean)]) ⟨hx, hb, hml, hown, hts⟩ hP hD hK hS hA [0, 1] [] [0] rfl rfl rfl (by decide) (by decide) (by decide) rfl (cM_goes l dC dI h0 h1 cA _ F G nn th hF false) (cwV 1 hts g_M_24 rfl rfl rfl (by decide +kernel) ⟨Nat.le_of_ble_eq_true rfl, Nat.le_of_ble_eq_true rfl⟩) 0 1 rfl rfl rfl rfl hl.1 rfl (Nat.le_of_ble_eq_true rfl) d_M_make_27 ⟨Nat.le_of_ble_eq_true rfl, Nat.le_of_ble_eq_true rfl⟩ (fun r_9 u9 H locs hw9 hP hD hS => ?_)
    replace hP : va_P (dC, dI) vwCl [(h0, .inr (1, [.int (zv (!false)), .int (nI nn), .ref h1])), (h1, .inl (cA, 16385, .inl F))] H := hP
    replace hD : va_D A [(h0, .inr (1, [.int (zv (!false)), .int (nI nn), .ref h1])), (h1, .inl (cA, 16385, .inl F))] := hD
    subst hw9
    refine lv_if_ne (tgt := 35) hx hb d_M_make_30 (by decide) (fun c9 => ?_) (fun c9 => ?_)
    · exact absurd rfl c9
    · refine lv_iconst (v := nI 0) hx hb d_M_make_33 (by decide) ?_
      exact W.iret (v := nI 0) hx hb hr (fun t9 ht9 hW9 => ⟨⟨nI 0, (false, F, G), rfl, ⟨hF, Or.inr ⟨rfl, fun ⟨a, b, e1, e2, e3, e4⟩ => hb2 rfl ⟨a, by omega, e1⟩, rfl⟩⟩, by rw [ht9]; exact hP, va_K.moved hW9.alike hK, hD⟩, hS.F ht9⟩) hS.2.2 d_M_make_34
  · have eb : bb = true := zv_t c0
    subst eb
    obtain ⟨k, k1, rfl⟩ := hb1 rfl
    refine lv_iload_n hx hb d_M_make_9 rfl (lv_at hl 2 rfl) ?_
    refine lv_iload_n hx hb d_M_make_10 rfl (lv_at hl 1 rfl) ?_
    refine lv_icmp_le (tgt := 26) hx hb d_M_make_11 (by decide) (fun c1 => ?_) (fun c1 => ?_)
    · refine lv_iconst (v := nI 0) hx hb d_M_make_26 (by decide) ?_
      refine cc_Vi (wc := [(h0, .inr (1, [.int th, .int (nI nn), .ref h1])), (h1, .inl (cA, 16385, .inl F))]) (wr := []) (tys' := [(cA, .boolean)]) ⟨hx, hb, hml, hown, hts⟩ hP hD hK hS hA [0, 1] [] [0] rfl rfl rfl (by decide) (by decide) (by decide) rfl (cM_goes l dC dI h0 h1 cA _ F G nn th hF false) (cwV 1 hts g_M_24 rfl rfl rfl (by decide +kernel) ⟨Nat.le_of_ble_eq_true rfl, Nat.le_of_ble_eq_true rfl⟩) 0 1 rfl rfl rfl rfl hl.1 rfl (Nat.le_of_ble_eq_true rfl) d_M_make_27 ⟨Nat.le_of_ble_eq_true rfl, Nat.le_of_ble_eq_true rfl⟩ (fun r_9 u9 H locs hw9 hP hD hS => ?_)
      replace hP : va_P (dC, dI) vwCl [(h0, .inr (1, [.int (zv (!false)), .int (nI nn), .ref h1])), (h1, .inl (cA, 16385, .inl F))] H := hP
      replace hD : va_D A [(h0, .inr (1, [.int (zv (!false)), .int (nI nn), .ref h1])), (h1, .inl (cA, 16385, .inl F))] := hD
      subst hw9
      refine lv_if_ne (tgt := 35) hx hb d_M_make_30 (by decide) (fun c9 => ?_) (fun c9 => ?_)
      · exact absurd rfl c9
      · refine lv_iconst (v := nI 0) hx hb d_M_make_33 (by decide) ?_
        exact W.iret (v := nI 0) hx hb hr (fun t9 ht9 hW9 => ⟨⟨nI 0, (false, F, G), rfl, ⟨hF, Or.inr ⟨rfl, fun ⟨a, b, e1, e2, e3, e4⟩ => by (have e5 : k = a := (nI_eq (by omega) (by omega)).mp e1; rw [e2] at c1; exact nI_ge (show k < b by omega) (by omega) c1), rfl⟩⟩, by rw [ht9]; exact hP, va_K.moved hW9.alike hK, hD⟩, hS.F ht9⟩) hS.2.2 d_M_make_34
    · refine lv_iload_n hx hb d_M_make_14 rfl (lv_at hl 2 rfl) ?_
      refine lv_aload_n hx hb d_M_make_15 rfl (lv_at hl 0 rfl) ?_
      refine va_get (D := (dC, dI)) (ci := 1) (v := .int (nI nn)) (C := RM) (T := TM) (N := 3) hx hb hts inM hown hK hP 0 rfl rfl 1 (by decide) (hts _ wl_M_7) (fun _ h9 => h9) rfl d_M_make_16 ?_
      refine lv_icmp_gt (tgt := 26) hx hb d_M_make_19 (by decide) (fun c2 => ?_) (fun c2 => ?_)
      · refine lv_iconst (v := nI 0) hx hb d_M_make_26 (by decide) ?_
        refine cc_Vi (wc := [(h0, .inr (1, [.int th, .int (nI nn), .ref h1])), (h1, .inl (cA, 16385, .inl F))]) (wr := []) (tys' := [(cA, .boolean)]) ⟨hx, hb, hml, hown, hts⟩ hP hD hK hS hA [0, 1] [] [0] rfl rfl rfl (by decide) (by decide) (by decide) rfl (cM_goes l dC dI h0 h1 cA _ F G nn th hF false) (cwV 1 hts g_M_24 rfl rfl rfl (by decide +kernel) ⟨Nat.le_of_ble_eq_true rfl, Nat.le_of_ble_eq_true rfl⟩) 0 1 rfl rfl rfl rfl hl.1 rfl (Nat.le_of_ble_eq_true rfl) d_M_make_27 ⟨Nat.le_of_ble_eq_true rfl, Nat.le_of_ble_eq_true rfl⟩ (fun r_9 u9 H locs hw9 hP hD hS => ?_)
        replace hP : va_P (dC, dI) vwCl [(h0, .inr (1, [.int (zv (!false)), .int (nI nn), .ref h1])), (h1, .inl (cA, 16385, .inl F))] H := hP
        replace hD : va_D A [(h0, .inr (1, [.int (zv (!false)), .int (nI nn), .ref h1])), (h1, .inl (cA, 16385, .inl F))] := hD
        subst hw9
        refine lv_if_ne (tgt := 35) hx hb d_M_make_30 (by decide) (fun c9 => ?_) (fun c9 => ?_)
        · exact absurd rfl c9
        · refine lv_iconst (v := nI 0) hx hb d_M_make_33 (by decide) ?_
          exact W.iret (v := nI 0) hx hb hr (fun t9 ht9 hW9 => ⟨⟨nI 0, (false, F, G), rfl, ⟨hF, Or.inr ⟨rfl, fun ⟨a, b, e1, e2, e3, e4⟩ => by (rw [e2] at c2; exact nI_nlt e4 (by omega) c2), rfl⟩⟩, by rw [ht9]; exact hP, va_K.moved hW9.alike hK, hD⟩, hS.F ht9⟩) hS.2.2 d_M_make_34
      · obtain ⟨b, b1, b2, rfl⟩ := z_mkof2 c1 c2 (by omega)
        refine lv_iconst (v := nI 1) hx hb d_M_make_22 (by decide) ?_
        refine lv_goto (tgt := 27) hx hb d_M_make_23 (by decide) ?_
        refine cc_Vi (wc := [(h0, .inr (1, [.int th, .int (nI nn), .ref h1])), (h1, .inl (cA, 16385, .inl F))]) (wr := []) (tys' := [(cA, .boolean)]) ⟨hx, hb, hml, hown, hts⟩ hP hD hK hS hA [0, 1] [] [0] rfl rfl rfl (by decide) (by decide) (by decide) rfl (cM_goes l dC dI h0 h1 cA _ F G nn th hF true) (cwV 1 hts g_M_24 rfl rfl rfl (by decide +kernel) ⟨Nat.le_of_ble_eq_true rfl, Nat.le_of_ble_eq_true rfl⟩) 0 1 rfl rfl rfl rfl hl.1 rfl (Nat.le_of_ble_eq_true rfl) d_M_make_27 ⟨Nat.le_of_ble_eq_true rfl, Nat.le_of_ble_eq_true rfl⟩ (fun r_9 u9 H locs hw9 hP hD hS => ?_)
        replace hP : va_P (dC, dI) vwCl [(h0, .inr (1, [.int (zv (!true)), .int (nI nn), .ref h1])), (h1, .inl (cA, 16385, .inl F))] H := hP
        replace hD : va_D A [(h0, .inr (1, [.int (zv (!true)), .int (nI nn), .ref h1])), (h1, .inl (cA, 16385, .inl F))] := hD
        subst hw9
        refine lv_if_ne (tgt := 35) hx hb d_M_make_30 (by decide) (fun c9 => ?_) (fun c9 => ?_)
        · refine lv_iload_n hx hb d_M_make_35 rfl (lv_at hl 1 rfl) ?_
          refine lv_istore_n (lv' := [(3, .int (nI k)), (0, .ref h0), (1, .int (nI k)), (2, .int (nI b))]) hx hb d_M_make_36 rfl hl (by decide) rfl (fun ls hl => ?_)
          refine cc_from hP hD hS (fun H locs hP hD hS => ?_)
          obtain ⟨ci, e_ci⟩ : ∃ ci : Nat, ci = k := ⟨_, rfl⟩
          obtain ⟨f, e_f⟩ : ∃ f : Nat → Int32, f = F := ⟨_, rfl⟩
          replace hl : lv_has ls 4 [(0, .ref h0), (1, .int (nI k)), (2, .int (nI b)), (3, .int (nI ci))] := by (subst e_ci; subst e_f; exact lv_sub hl [1, 2, 3, 0] rfl)
          replace hP : va_P (dC, dI) vwCl [(h0, .inr (1, [.int (zv (!true)), .int (nI nn), .ref h1])), (h1, .inl (cA, 16385, .inl f))] H := by (subst e_ci; subst e_f; exact hP)
          replace hD : va_D A [(h0, .inr (1, [.int (zv (!true)), .int (nI nn), .ref h1])), (h1, .inl (cA, 16385, .inl f))] := by (subst e_ci; subst e_f; exact hD)
          have j0 : k ≤ ci := by (subst e_ci; subst e_f; exact Nat.le_refl _)
          have j1 : ci ≤ b + 1 := by (subst e_ci; subst e_f; omega)
          have j2 : ∀ j, j < 16385 → f j = zv (if k ≤ j ∧ j < ci then decide (j = k ∨ j = b) else G j) := by (subst e_ci; subst e_f; exact fun j hj => by rw [if_neg (by omega)]; exact hF j hj)
          clear e_ci e_f
          obtain ⟨f9, hf9⟩ : ∃ f9 : Nat, b + 1 - ci < f9 := ⟨_, Nat.lt_succ_self _⟩
          induction f9 generalizing ls H locs ci f with
          | zero => exact absurd hf9 (Nat.not_lt_zero _)
          | succ f9 ih =>
            refine lv_iload_n hx hb d_M_make_37 rfl (lv_at hl 3 rfl) ?_
            refine lv_iload_n hx hb d_M_make_38 rfl (lv_at hl 2 rfl) ?_
            refine lv_icmp_gt (tgt := 69) hx hb d_M_make_39 (by decide) (fun c3 => ?_) (fun c3 => ?_)
            · replace c3 : b < ci := (nI_ltI (a := b) (b := ci) (by omega) (by omega)).mp c3
              have hF2 : MF f (fun j => if k ≤ j ∧ j ≤ b then decide (j = k ∨ j = b) else G j) := fun j hj => by
                rw [j2 j hj]
                show zv (if k ≤ j ∧ j < ci then decide (j = k ∨ j = b) else G j) = zv (if k ≤ j ∧ j ≤ b then decide (j = k ∨ j = b) else G j)
                by_cases q : k ≤ j ∧ j ≤ b
                · rw [if_pos q, if_pos (by omega)]
                · rw [if_neg q, if_neg (by omega)]
              refine lv_aload_n hx hb d_M_make_69 rfl (lv_at hl 0 rfl) ?_
              refine cc_Vi (wc := [(h0, .inr (1, [.int (zv (!true)), .int (nI nn), .ref h1])), (h1, .inl (cA, 16385, .inl f))]) (wr := []) (tys' := [(cA, .boolean)]) ⟨hx, hb, hml, hown, hts⟩ hP hD hK hS hA [0, 1] [] [0] rfl rfl rfl (by decide) (by decide) (by decide) rfl (cM_pieces l dC dI h0 h1 cA _ f _ nn (zv (!true)) hF2 g1) (cwV 0 hts g_M_39 rfl rfl rfl (by decide +kernel) ⟨Nat.le_of_ble_eq_true rfl, Nat.le_of_ble_eq_true rfl⟩) 0 1 rfl rfl rfl rfl hl.1 rfl (Nat.le_of_ble_eq_true rfl) d_M_make_70 ⟨Nat.le_of_ble_eq_true rfl, Nat.le_of_ble_eq_true rfl⟩ (fun r_9 u H locs hw hP hD hS => ?_)
              replace hP : va_P (dC, dI) vwCl [(h0, .inr (1, [.int (zv (!true)), .int (nI nn), .ref h1])), (h1, .inl (cA, 16385, .inl f))] H := hP
              replace hD : va_D A [(h0, .inr (1, [.int (zv (!true)), .int (nI nn), .ref h1])), (h1, .inl (cA, 16385, .inl f))] := hD
              subst hw
              exact W.iret (v := nI (zc (fun j => if k ≤ j ∧ j ≤ b then decide (j = k ∨ j = b) else G j) nn)) hx hb hr (fun t9 ht9 hW9 => ⟨⟨nI (zc (fun j => if k ≤ j ∧ j ≤ b then decide (j = k ∨ j = b) else G j) nn), (true, f, fun j => if k ≤ j ∧ j ≤ b then decide (j = k ∨ j = b) else G j), rfl, ⟨hF2, Or.inl ⟨rfl, k, b, rfl, rfl, b1, b2, rfl, rfl⟩⟩, by rw [ht9]; exact hP, va_K.moved hW9.alike hK, hD⟩, hS.F ht9⟩) hS.2.2 d_M_make_73
            · replace c3 : ¬ (b < ci) := fun h9 => c3 ((nI_ltI (a := b) (b := ci) (by omega) (by omega)).mpr h9)
              refine lv_aload_n hx hb d_M_make_42 rfl (lv_at hl 0 rfl) ?_
              refine va_get (D := (dC, dI)) (ci := 1) (v := .ref h1) (C := RM) (T := TM) (N := 3) hx hb hts inM hown hK hP 0 rfl rfl 2 (by decide) (hts _ wl_M_13) (fun _ h9 => h9) rfl d_M_make_43 ?_
              refine lv_iload_n hx hb d_M_make_46 rfl (lv_at hl 3 rfl) ?_
              refine lv_iload_n hx hb d_M_make_47 rfl (lv_at hl 3 rfl) ?_
              refine lv_iload_n hx hb d_M_make_48 rfl (lv_at hl 1 rfl) ?_
              refine lv_icmp_eq (tgt := 57) hx hb d_M_make_49 (by decide) (fun c4 => ?_) (fun c4 => ?_)
              · replace c4 : ci = k := (nI_eq (a := ci) (b := k) (by omega) (by omega)).mp c4
                have j3 : ∀ j, j < 16385 → upd f ci (nI 1) j = zv (if k ≤ j ∧ j < ci + 1 then decide (j = k ∨ j = b) else G j) := fun j hj => by
                  by_cases q : j = ci
                  · rw [q, pk_us, if_pos (by omega), decide_eq_true (by omega)]; rfl
                  · rw [pk_un q, j2 j hj]
                    by_cases z : k ≤ j ∧ j < ci
                    · rw [if_pos z, if_pos (by omega)]
                    · rw [if_neg z, if_neg (by omega)]
                refine lv_iconst (v := nI 1) hx hb d_M_make_57 (by decide) ?_
                refine lv_goto (tgt := 62) hx hb d_M_make_58 (by decide) ?_
                refine va_zast hx hb hK hP hD hS 1 0 rfl rfl (vp_in_nI (by omega) (by decide)) d_M_make_62 (fun H locs hP hD hS => ?_)
                rw [nI_clamp (by omega)] at hP hD
                rw [show vp_nar .boolean (nI 1) = nI 1 from by decide +kernel] at hP hD
                replace hP : va_P (dC, dI) vwCl [(h0, .inr (1, [.int (zv (!true)), .int (nI nn), .ref h1])), (h1, .inl (cA, 16385, .inl (upd f ci (nI 1))))] H := hP
                replace hD : va_D A [(h0, .inr (1, [.int (zv (!true)), .int (nI nn), .ref h1])), (h1, .inl (cA, 16385, .inl (upd f ci (nI 1))))] := hD
                refine lv_iinc (v := nI (ci + 1)) (lv' := [(3, .int (nI (ci + 1))), (0, .ref h0), (1, .int (nI k)), (2, .int (nI b))]) hx hb d_M_make_63 hl (k := 3) rfl (nI_1 _) (by decide) rfl (fun ls hl => ?_)
                refine lv_goto (tgt := 37) hx hb d_M_make_66 (by decide) ?_
                apply ih (ls := ls) (H := H) (locs := locs) (ci := ci + 1) (f := upd f ci (nI 1)) <;> first | assumption | exact lv_sub hl [1, 2, 3, 0] rfl | omega
              · replace c4 : ¬ (ci = k) := fun h9 => c4 ((nI_eq (a := ci) (b := k) (by omega) (by omega)).mpr h9)
                refine lv_iload_n hx hb d_M_make_52 rfl (lv_at hl 3 rfl) ?_
                refine lv_iload_n hx hb d_M_make_53 rfl (lv_at hl 2 rfl) ?_
                refine lv_icmp_ne (tgt := 61) hx hb d_M_make_54 (by decide) (fun c5 => ?_) (fun c5 => ?_)
                · replace c5 : ¬ (ci = b) := fun h9 => c5 ((nI_eq (a := ci) (b := b) (by omega) (by omega)).mpr h9)
                  have j3 : ∀ j, j < 16385 → upd f ci (nI 0) j = zv (if k ≤ j ∧ j < ci + 1 then decide (j = k ∨ j = b) else G j) := fun j hj => by
                    by_cases q : j = ci
                    · rw [q, pk_us, if_pos (by omega), decide_eq_false (by omega)]; rfl
                    · rw [pk_un q, j2 j hj]
                      by_cases z : k ≤ j ∧ j < ci
                      · rw [if_pos z, if_pos (by omega)]
                      · rw [if_neg z, if_neg (by omega)]
                  refine lv_iconst (v := nI 0) hx hb d_M_make_61 (by decide) ?_
                  refine va_zast hx hb hK hP hD hS 1 0 rfl rfl (vp_in_nI (by omega) (by decide)) d_M_make_62 (fun H locs hP hD hS => ?_)
                  rw [nI_clamp (by omega)] at hP hD
                  rw [show vp_nar .boolean (nI 0) = nI 0 from by decide +kernel] at hP hD
                  replace hP : va_P (dC, dI) vwCl [(h0, .inr (1, [.int (zv (!true)), .int (nI nn), .ref h1])), (h1, .inl (cA, 16385, .inl (upd f ci (nI 0))))] H := hP
                  replace hD : va_D A [(h0, .inr (1, [.int (zv (!true)), .int (nI nn), .ref h1])), (h1, .inl (cA, 16385, .inl (upd f ci (nI 0))))] := hD
                  refine lv_iinc (v := nI (ci + 1)) (lv' := [(3, .int (nI (ci + 1))), (0, .ref h0), (1, .int (nI k)), (2, .int (nI b))]) hx hb d_M_make_63 hl (k := 3) rfl (nI_1 _) (by decide) rfl (fun ls hl => ?_)
                  refine lv_goto (tgt := 37) hx hb d_M_make_66 (by decide) ?_
                  apply ih (ls := ls) (H := H) (locs := locs) (ci := ci + 1) (f := upd f ci (nI 0)) <;> first | assumption | exact lv_sub hl [1, 2, 3, 0] rfl | omega
                · replace c5 : ci = b := (nI_eq (a := ci) (b := b) (by omega) (by omega)).mp c5
                  have j3 : ∀ j, j < 16385 → upd f ci (nI 1) j = zv (if k ≤ j ∧ j < ci + 1 then decide (j = k ∨ j = b) else G j) := fun j hj => by
                    by_cases q : j = ci
                    · rw [q, pk_us, if_pos (by omega), decide_eq_true (by omega)]; rfl
                    · rw [pk_un q, j2 j hj]
                      by_cases z : k ≤ j ∧ j < ci
                      · rw [if_pos z, if_pos (by omega)]
                      · rw [if_neg z, if_neg (by omega)]
                  refine lv_iconst (v := nI 1) hx hb d_M_make_57 (by decide) ?_
                  refine lv_goto (tgt := 62) hx hb d_M_make_58 (by decide) ?_
                  refine va_zast hx hb hK hP hD hS 1 0 rfl rfl (vp_in_nI (by omega) (by decide)) d_M_make_62 (fun H locs hP hD hS => ?_)
                  rw [nI_clamp (by omega)] at hP hD
                  rw [show vp_nar .boolean (nI 1) = nI 1 from by decide +kernel] at hP hD
                  replace hP : va_P (dC, dI) vwCl [(h0, .inr (1, [.int (zv (!true)), .int (nI nn), .ref h1])), (h1, .inl (cA, 16385, .inl (upd f ci (nI 1))))] H := hP
                  replace hD : va_D A [(h0, .inr (1, [.int (zv (!true)), .int (nI nn), .ref h1])), (h1, .inl (cA, 16385, .inl (upd f ci (nI 1))))] := hD
                  refine lv_iinc (v := nI (ci + 1)) (lv' := [(3, .int (nI (ci + 1))), (0, .ref h0), (1, .int (nI k)), (2, .int (nI b))]) hx hb d_M_make_63 hl (k := 3) rfl (nI_1 _) (by decide) rfl (fun ls hl => ?_)
                  refine lv_goto (tgt := 37) hx hb d_M_make_66 (by decide) ?_
                  apply ih (ls := ls) (H := H) (locs := locs) (ci := ci + 1) (f := upd f ci (nI 1)) <;> first | assumption | exact lv_sub hl [1, 2, 3, 0] rfl | omega
        · exact absurd c9 (by decide)
set_option maxHeartbeats 4000000 in
set_option maxRecDepth 100000 in
/-- M_count -/
theorem cM_count (l : Launch) (dC : Nat → ClassId) (dI : Nat → Nat → Nat) (h0 h1 : Nat) (cA : ClassId) (sz : Nat) (F : Nat → Int32) (G : Nat → Bool) (nn : Nat) (th : Int32) (hF : MF F G) (x : Int32) (g0 : 1 ≤ nn) (g1 : nn ≤ 16384) (g2 : G 0 = true) (g3 : G nn = true) : Met l y_M_count ws_M_count ({ frames := 1, cells := 0, slots := 0, locals := 22 }) (va_Pc [.ref h0, .int x] (cc_P (dC, dI) vwCl (wM h0 h1 cA th (nI nn) F) (tM cA) sz)) (va_Qi (S := Bool × (Nat → Int32) × (Nat → Bool)) (fun (r : Int32) (u : Bool × (Nat → Int32) × (Nat → Bool)) => MF u.2.1 u.2.2 ∧ ((u.1 = true ∧ ((x = nI 0 ∧ r = nI (nn)) ∨ (x = nI 1 ∧ r = nI ((nn + 31) / 32)) ∨ (x = nI 2 ∧ r = nI (zc G nn)) ∨ (x = nI 3 ∧ r = nI (zF max G nn (zc G nn) 0 0)) ∨ (x = nI 4 ∧ r = nI (zF min G nn (zc G nn) 0 16384))) ∧ u.2.2 = G) ∨ (u.1 = false ∧ (¬ (x = nI 0 ∨ x = nI 1 ∨ x = nI 2 ∨ x = nI 3 ∨ x = nI 4)) ∧ u.2.2 = G))) (fun u t => cc_B (dC, dI) vwCl (tM cA) (va_A (wM h0 h1 cA th (nI nn) F) sz) ((fun u : Bool × (Nat → Int32) × (Nat → Bool) => (wM h0 h1 cA (zv (!u.1)) (nI nn) u.2.1)) u) t) (va_A (wM h0 h1 cA th (nI nn) F) sz)) 0 0 (va_A (wM h0 h1 cA th (nI nn) F) sz) := by
  refine Met.ofW (cc := c_M_count) (maxL := 6) (ret := (some .int)) (by decide) rfl ?_
  intro p e s m args below meth c s₁ B hml hv
  obtain ⟨rfl, hsz, hP, hK, hD0⟩ := hv
  have hx := B.exec
  have hb := B.bytes
  have hr := B.returns
  have hts : ∀ w ∈ zAll, w.before _ s = true := fun w h => atoms_spec (ws := ws_M_count) B.pre w (List.mem_cons_of_mem _ h)
  have hown : s.vm.findClass RM = some m.cls := findClass_of_methodNamed B.named
  have hlocks := B.notSynchronized
  subst hsz
  have hD := hD0.self (sz := s.heap.size)
  generalize hAe : va_A (wM h0 h1 cA th (nI nn) F) s.heap.size = A at hD ⊢
  have hA : ∀ q : Nat, s.heap.size ≤ q → A q := fun q h => by rw [← hAe]; exact Or.inr h
  have hS : va_S A s.heap s.heap [] := va_S.rf
  replace hP : va_P (dC, dI) vwCl [(h0, .inr (1, [.int th, .int (nI nn), .ref h1])), (h1, .inl (cA, 16385, .inl F))] s.heap := hP
  replace hD : va_D A [(h0, .inr (1, [.int th, .int (nI nn), .ref h1])), (h1, .inl (cA, 16385, .inl F))] := hD
  have hl := lv_entry ([.ref h0, .int x]) (n := 6) (Nat.le_of_ble_eq_true rfl)
  rw [lg_entry_eq]
  generalize (lg_sl ([.ref h0, .int x]) ++ List.replicate (6 - (lg_sl ([.ref h0, .int x])).length) Slot.unset).toArray = ls at hl ⊢
  replace hl : lv_has ls 6 [(0, .ref h0), (1, .int x)] := hl
  refine lv_aload_n hx hb d_M_count_0 rfl (lv_at hl 0 rfl) ?_
  refine lv_iload_n hx hb d_M_count_1 rfl (lv_at hl 1 rfl) ?_
  refine lv_if_lt (tgt := 14) hx hb d_M_count_2 (by decide) (fun c1 => ?_) (fun c1 => ?_)
  · refine lv_iconst (v := nI 0) hx hb d_M_count_14 (by decide) ?_
    refine cc_Vi (wc := [(h0, .inr (1, [.int th, .int (nI nn), .ref h1])), (h1, .inl (cA, 16385, .inl F))]) (wr := []) (tys' := [(cA, .boolean)]) ⟨hx, hb, hml, hown, hts⟩ hP hD hK hS hA [0, 1] [] [0] rfl rfl rfl (by decide) (by decide) (by decide) rfl (cM_goes l dC dI h0 h1 cA _ F G nn th hF false) (cwV 1 hts g_M_24 rfl rfl rfl (by decide +kernel) ⟨Nat.le_of_ble_eq_true rfl, Nat.le_of_ble_eq_true rfl⟩) 0 1 rfl rfl rfl rfl hl.1 rfl (Nat.le_of_ble_eq_true rfl) d_M_count_15 ⟨Nat.le_of_ble_eq_true rfl, Nat.le_of_ble_eq_true rfl⟩ (fun r_9 u9 H locs hw9 hP hD hS => ?_)
    replace hP : va_P (dC, dI) vwCl [(h0, .inr (1, [.int (zv (!false)), .int (nI nn), .ref h1])), (h1, .inl (cA, 16385, .inl F))] H := hP
    replace hD : va_D A [(h0, .inr (1, [.int (zv (!false)), .int (nI nn), .ref h1])), (h1, .inl (cA, 16385, .inl F))] := hD
    subst hw9
    refine lv_if_ne (tgt := 23) hx hb d_M_count_18 (by decide) (fun c9 => ?_) (fun c9 => ?_)
    · exact absurd rfl c9
    · refine lv_iconst (v := nI 0) hx hb d_M_count_21 (by decide) ?_
      exact W.iret (v := nI 0) hx hb hr (fun t9 ht9 hW9 => ⟨⟨nI 0, (false, F, G), rfl, ⟨hF, Or.inr ⟨rfl, z_sw5n (Or.inl (z_lt0 c1)), rfl⟩⟩, by rw [ht9]; exact hP, va_K.moved hW9.alike hK, hD⟩, hS.F ht9⟩) hS.2.2 d_M_count_22
  · refine lv_iload_n hx hb d_M_count_5 rfl (lv_at hl 1 rfl) ?_
    refine lv_iconst (v := nI 4) hx hb d_M_count_6 (by decide) ?_
    refine lv_icmp_gt (tgt := 14) hx hb d_M_count_7 (by decide) (fun c2 => ?_) (fun c2 => ?_)
    · refine lv_iconst (v := nI 0) hx hb d_M_count_14 (by decide) ?_
      refine cc_Vi (wc := [(h0, .inr (1, [.int th, .int (nI nn), .ref h1])), (h1, .inl (cA, 16385, .inl F))]) (wr := []) (tys' := [(cA, .boolean)]) ⟨hx, hb, hml, hown, hts⟩ hP hD hK hS hA [0, 1] [] [0] rfl rfl rfl (by decide) (by decide) (by decide) rfl (cM_goes l dC dI h0 h1 cA _ F G nn th hF false) (cwV 1 hts g_M_24 rfl rfl rfl (by decide +kernel) ⟨Nat.le_of_ble_eq_true rfl, Nat.le_of_ble_eq_true rfl⟩) 0 1 rfl rfl rfl rfl hl.1 rfl (Nat.le_of_ble_eq_true rfl) d_M_count_15 ⟨Nat.le_of_ble_eq_true rfl, Nat.le_of_ble_eq_true rfl⟩ (fun r_9 u9 H locs hw9 hP hD hS => ?_)
      replace hP : va_P (dC, dI) vwCl [(h0, .inr (1, [.int (zv (!false)), .int (nI nn), .ref h1])), (h1, .inl (cA, 16385, .inl F))] H := hP
      replace hD : va_D A [(h0, .inr (1, [.int (zv (!false)), .int (nI nn), .ref h1])), (h1, .inl (cA, 16385, .inl F))] := hD
      subst hw9
      refine lv_if_ne (tgt := 23) hx hb d_M_count_18 (by decide) (fun c9 => ?_) (fun c9 => ?_)
      · exact absurd rfl c9
      · refine lv_iconst (v := nI 0) hx hb d_M_count_21 (by decide) ?_
        exact W.iret (v := nI 0) hx hb hr (fun t9 ht9 hW9 => ⟨⟨nI 0, (false, F, G), rfl, ⟨hF, Or.inr ⟨rfl, z_sw5n (Or.inr (z_gt4 c2)), rfl⟩⟩, by rw [ht9]; exact hP, va_K.moved hW9.alike hK, hD⟩, hS.F ht9⟩) hS.2.2 d_M_count_22
    · refine lv_iconst (v := nI 1) hx hb d_M_count_10 (by decide) ?_
      refine lv_goto (tgt := 15) hx hb d_M_count_11 (by decide) ?_
      refine cc_Vi (wc := [(h0, .inr (1, [.int th, .int (nI nn), .ref h1])), (h1, .inl (cA, 16385, .inl F))]) (wr := []) (tys' := [(cA, .boolean)]) ⟨hx, hb, hml, hown, hts⟩ hP hD hK hS hA [0, 1] [] [0] rfl rfl rfl (by decide) (by decide) (by decide) rfl (cM_goes l dC dI h0 h1 cA _ F G nn th hF true) (cwV 1 hts g_M_24 rfl rfl rfl (by decide +kernel) ⟨Nat.le_of_ble_eq_true rfl, Nat.le_of_ble_eq_true rfl⟩) 0 1 rfl rfl rfl rfl hl.1 rfl (Nat.le_of_ble_eq_true rfl) d_M_count_15 ⟨Nat.le_of_ble_eq_true rfl, Nat.le_of_ble_eq_true rfl⟩ (fun r_9 u9 H locs hw9 hP hD hS => ?_)
      replace hP : va_P (dC, dI) vwCl [(h0, .inr (1, [.int (zv (!true)), .int (nI nn), .ref h1])), (h1, .inl (cA, 16385, .inl F))] H := hP
      replace hD : va_D A [(h0, .inr (1, [.int (zv (!true)), .int (nI nn), .ref h1])), (h1, .inl (cA, 16385, .inl F))] := hD
      subst hw9
      refine lv_if_ne (tgt := 23) hx hb d_M_count_18 (by decide) (fun c9 => ?_) (fun c9 => ?_)
      · refine lv_iconst (v := nI 0) hx hb d_M_count_23 (by decide) ?_
        refine lv_istore_n (lv' := [(2, .int (nI 0)), (0, .ref h0), (1, .int x)]) hx hb d_M_count_24 rfl hl (by decide) rfl (fun ls hl => ?_)
        refine lv_sipush (v := nI 16384) hx hb d_M_count_25 (by decide) ?_
        refine lv_istore_n (lv' := [(3, .int (nI 16384)), (2, .int (nI 0)), (0, .ref h0), (1, .int x)]) hx hb d_M_count_28 rfl hl (by decide) rfl (fun ls hl => ?_)
        refine lv_iconst (v := nI 0) hx hb d_M_count_29 (by decide) ?_
        refine lv_istore (lv' := [(4, .int (nI 0)), (3, .int (nI 16384)), (2, .int (nI 0)), (0, .ref h0), (1, .int x)]) hx hb d_M_count_30 hl (by decide) rfl (fun ls hl => ?_)
        refine cc_from hP hD hS (fun H locs hP hD hS => ?_)
        obtain ⟨mo, e_mo⟩ : ∃ mo : Nat, mo = 0 := ⟨_, rfl⟩
        obtain ⟨le, e_le⟩ : ∃ le : Nat, le = 16384 := ⟨_, rfl⟩
        obtain ⟨ci, e_ci⟩ : ∃ ci : Nat, ci = 0 := ⟨_, rfl⟩
        obtain ⟨i, e_i⟩ : ∃ i : Nat, i = 0 := ⟨_, rfl⟩
        replace hl : lv_has ls 6 [(0, .ref h0), (1, .int x), (2, .int (nI mo)), (3, .int (nI le)), (4, .int (nI ci))] := by (subst e_mo; subst e_le; subst e_ci; subst e_i; exact lv_sub hl [3, 4, 2, 1, 0] rfl)
        have j1 : ci ≤ nn := by (subst e_mo; subst e_le; subst e_ci; subst e_i; exact Nat.zero_le _)
        have j2 : ci = nn ∨ G ci = true := by (subst e_mo; subst e_le; subst e_ci; subst e_i; exact Or.inr g2)
        have j3 : zc G ci = i := by (subst e_mo; subst e_le; subst e_ci; subst e_i; rfl)
        have j4 : zF max G nn (zc G nn - i) ci mo = zF max G nn (zc G nn) 0 0 := by (subst e_mo; subst e_le; subst e_ci; subst e_i; rfl)
        have j5 : zF min G nn (zc G nn - i) ci le = zF min G nn (zc G nn) 0 16384 := by (subst e_mo; subst e_le; subst e_ci; subst e_i; rfl)
        have j6 : mo ≤ 16384 := by (subst e_mo; subst e_le; subst e_ci; subst e_i; exact Nat.zero_le _)
        have j7 : le ≤ 16384 := by (subst e_mo; subst e_le; subst e_ci; subst e_i; exact Nat.le_refl _)
        clear e_mo e_le e_ci e_i
        obtain ⟨f9, hf9⟩ : ∃ f9 : Nat, nn - ci < f9 := ⟨_, Nat.lt_succ_self _⟩
        induction f9 generalizing ls H locs mo le ci i with
        | zero => exact absurd hf9 (Nat.not_lt_zero _)
        | succ f9 ih =>
          refine lv_iload hx hb d_M_count_32 (lv_at hl 4 rfl) ?_
          refine lv_aload_n hx hb d_M_count_34 rfl (lv_at hl 0 rfl) ?_
          refine va_get (D := (dC, dI)) (ci := 1) (v := .int (nI nn)) (C := RM) (T := TM) (N := 3) hx hb hts inM hown hK hP 0 rfl rfl 1 (by decide) (hts _ wl_M_7) (fun _ h9 => h9) rfl d_M_count_35 ?_
          refine lv_icmp_ge (tgt := 89) hx hb d_M_count_38 (by decide) (fun c3 => ?_) (fun c3 => ?_)
          · replace c3 : nn ≤ ci := (nI_leI (a := nn) (b := ci) (by omega) (by omega)).mp c3
            have ee : ci = nn := by omega
            subst ee
            subst j3
            rw [Nat.sub_self] at j4 j5
            have j4 : mo = zF max G ci (zc G ci) 0 0 := j4
            have j5 : le = zF min G ci (zc G ci) 0 16384 := j5
            refine lv_iload_n hx hb d_M_count_89 rfl (lv_at hl 1 rfl) ?_
            rcases z_sw5 x with rfl | rfl | rfl | rfl | rfl | hsw
            · refine lv_tableIn (tgt := 120) (off := 30) hx hb d_M_count_90 (by decide) (by decide) (by decide) (by decide) ?_
              refine lv_aload_n hx hb d_M_count_120 rfl (lv_at hl 0 rfl) ?_
              refine va_get (D := (dC, dI)) (ci := 1) (v := .int (nI ci)) (C := RM) (T := TM) (N := 3) hx hb hts inM hown hK hP 0 rfl rfl 1 (by decide) (hts _ wl_M_7) (fun _ h9 => h9) rfl d_M_count_121 ?_
              exact W.iret (v := nI ci) hx hb hr (fun t9 ht9 hW9 => ⟨⟨nI ci, (true, F, G), rfl, ⟨hF, Or.inl ⟨rfl, (Or.inl ⟨rfl, rfl⟩), rfl⟩⟩, by rw [ht9]; exact hP, va_K.moved hW9.alike hK, hD⟩, hS.F ht9⟩) hS.2.2 d_M_count_124
            · refine lv_tableIn (tgt := 125) (off := 35) hx hb d_M_count_90 (by decide) (by decide) (by decide) (by decide) ?_
              refine lv_aload_n hx hb d_M_count_125 rfl (lv_at hl 0 rfl) ?_
              refine cc_Vi (wc := [(h0, .inr (1, [.int (zv (!true)), .int (nI ci), .ref h1])), (h1, .inl (cA, 16385, .inl F))]) (wr := []) (tys' := [(cA, .boolean)]) ⟨hx, hb, hml, hown, hts⟩ hP hD hK hS hA [0, 1] [] [0] rfl rfl rfl (by decide) (by decide) (by decide) rfl (cM_cards l dC dI h0 h1 cA _ F G ci (zv (!true)) hF g1) (cwV 0 hts g_M_20 rfl rfl rfl (by decide +kernel) ⟨Nat.le_of_ble_eq_true rfl, Nat.le_of_ble_eq_true rfl⟩) 0 1 rfl rfl rfl rfl hl.1 rfl (Nat.le_of_ble_eq_true rfl) d_M_count_126 ⟨Nat.le_of_ble_eq_true rfl, Nat.le_of_ble_eq_true rfl⟩ (fun r_9 u H locs hw hP hD hS => ?_)
              replace hP : va_P (dC, dI) vwCl [(h0, .inr (1, [.int (zv (!true)), .int (nI ci), .ref h1])), (h1, .inl (cA, 16385, .inl F))] H := hP
              replace hD : va_D A [(h0, .inr (1, [.int (zv (!true)), .int (nI ci), .ref h1])), (h1, .inl (cA, 16385, .inl F))] := hD
              subst hw
              exact W.iret (v := nI ((ci + 31) / 32)) hx hb hr (fun t9 ht9 hW9 => ⟨⟨nI ((ci + 31) / 32), (true, F, G), rfl, ⟨hF, Or.inl ⟨rfl, (Or.inr (Or.inl ⟨rfl, rfl⟩)), rfl⟩⟩, by rw [ht9]; exact hP, va_K.moved hW9.alike hK, hD⟩, hS.F ht9⟩) hS.2.2 d_M_count_129
            · refine lv_tableIn (tgt := 130) (off := 40) hx hb d_M_count_90 (by decide) (by decide) (by decide) (by decide) ?_
              refine lv_aload_n hx hb d_M_count_130 rfl (lv_at hl 0 rfl) ?_
              refine cc_Vi (wc := [(h0, .inr (1, [.int (zv (!true)), .int (nI ci), .ref h1])), (h1, .inl (cA, 16385, .inl F))]) (wr := []) (tys' := [(cA, .boolean)]) ⟨hx, hb, hml, hown, hts⟩ hP hD hK hS hA [0, 1] [] [0] rfl rfl rfl (by decide) (by decide) (by decide) rfl (cM_pieces l dC dI h0 h1 cA _ F G ci (zv (!true)) hF g1) (cwV 0 hts g_M_39 rfl rfl rfl (by decide +kernel) ⟨Nat.le_of_ble_eq_true rfl, Nat.le_of_ble_eq_true rfl⟩) 0 1 rfl rfl rfl rfl hl.1 rfl (Nat.le_of_ble_eq_true rfl) d_M_count_131 ⟨Nat.le_of_ble_eq_true rfl, Nat.le_of_ble_eq_true rfl⟩ (fun r_9 u H locs hw hP hD hS => ?_)
              replace hP : va_P (dC, dI) vwCl [(h0, .inr (1, [.int (zv (!true)), .int (nI ci), .ref h1])), (h1, .inl (cA, 16385, .inl F))] H := hP
              replace hD : va_D A [(h0, .inr (1, [.int (zv (!true)), .int (nI ci), .ref h1])), (h1, .inl (cA, 16385, .inl F))] := hD
              subst hw
              exact W.iret (v := nI (zc G ci)) hx hb hr (fun t9 ht9 hW9 => ⟨⟨nI (zc G ci), (true, F, G), rfl, ⟨hF, Or.inl ⟨rfl, (Or.inr (Or.inr (Or.inl ⟨rfl, rfl⟩))), rfl⟩⟩, by rw [ht9]; exact hP, va_K.moved hW9.alike hK, hD⟩, hS.F ht9⟩) hS.2.2 d_M_count_134
            · refine lv_tableIn (tgt := 135) (off := 45) hx hb d_M_count_90 (by decide) (by decide) (by decide) (by decide) ?_
              refine lv_iload_n hx hb d_M_count_135 rfl (lv_at hl 2 rfl) ?_
              exact W.iret (v := nI mo) hx hb hr (fun t9 ht9 hW9 => ⟨⟨nI mo, (true, F, G), rfl, ⟨hF, Or.inl ⟨rfl, (Or.inr (Or.inr (Or.inr (Or.inl ⟨rfl, congrArg nI j4⟩)))), rfl⟩⟩, by rw [ht9]; exact hP, va_K.moved hW9.alike hK, hD⟩, hS.F ht9⟩) hS.2.2 d_M_count_136
            · refine lv_tableOut (tgt := 137) hx hb d_M_count_90 (Or.inr (by decide)) (by decide) ?_
              refine lv_iload_n hx hb d_M_count_137 rfl (lv_at hl 3 rfl) ?_
              exact W.iret (v := nI le) hx hb hr (fun t9 ht9 hW9 => ⟨⟨nI le, (true, F, G), rfl, ⟨hF, Or.inl ⟨rfl, (Or.inr (Or.inr (Or.inr (Or.inr ⟨rfl, congrArg nI j5⟩)))), rfl⟩⟩, by rw [ht9]; exact hP, va_K.moved hW9.alike hK, hD⟩, hS.F ht9⟩) hS.2.2 d_M_count_138
            · exact absurd hsw (z_nsw c1 c2)
          · replace c3 : ¬ (nn ≤ ci) := fun h9 => c3 ((nI_leI (a := nn) (b := ci) (by omega) (by omega)).mpr h9)
            have hlt : ci < nn := by omega
            have hon : G ci = true := j2.elim (fun z => absurd z (by omega)) id
            refine lv_aload_n hx hb d_M_count_41 rfl (lv_at hl 0 rfl) ?_
            refine lv_iload hx hb d_M_count_42 (lv_at hl 4 rfl) ?_
            refine cc_Vi (wc := [(h0, .inr (1, [.int (zv (!true)), .int (nI nn), .ref h1])), (h1, .inl (cA, 16385, .inl F))]) (wr := []) (tys' := [(cA, .boolean)]) ⟨hx, hb, hml, hown, hts⟩ hP hD hK hS hA [0, 1] [] [0] rfl rfl rfl (by decide) (by decide) (by decide) rfl (cM_behind l dC dI h0 h1 cA _ F G nn (zv (!true)) hF ci hlt g1 g3) (cwV 1 hts g_M_36 rfl rfl rfl (by decide +kernel) ⟨Nat.le_of_ble_eq_true rfl, Nat.le_of_ble_eq_true rfl⟩) 0 1 rfl rfl rfl rfl hl.1 rfl (Nat.le_of_ble_eq_true rfl) d_M_count_44 ⟨Nat.le_of_ble_eq_true rfl, Nat.le_of_ble_eq_true rfl⟩ (fun r_9 u H locs hw hP hD hS => ?_)
            replace hP : va_P (dC, dI) vwCl [(h0, .inr (1, [.int (zv (!true)), .int (nI nn), .ref h1])), (h1, .inl (cA, 16385, .inl F))] H := hP
            replace hD : va_D A [(h0, .inr (1, [.int (zv (!true)), .int (nI nn), .ref h1])), (h1, .inl (cA, 16385, .inl F))] := hD
            subst hw
            have zg1 := zn_ge G nn (ci + 1)
            have zh1 : zn G nn (ci + 1) ≤ nn := zn_le (by omega)
            have e3 : zn G nn (ci + 1) = nn ∨ G (zn G nn (ci + 1)) = true := z_nxo (by omega)
            have e4 : zc G (zn G nn (ci + 1)) = i + 1 := by (rw [← j3]; exact zc_next hon hlt)
            have e7 : i + 1 ≤ zc G nn := by (rw [← e4]; exact zc_mono G zh1)
            refine lv_iload hx hb d_M_count_47 (lv_at hl 4 rfl) ?_
            refine lv_isub hx hb d_M_count_49 ?_
            refine lv_topi (nm_r (show _ = nI ((zn G nn (ci + 1)) - ci) from pk_sub (by omega)) ?_)
            refine lv_istore (lv' := [(5, .int (nI ((zn G nn (ci + 1)) - ci))), (0, .ref h0), (1, .int x), (2, .int (nI mo)), (3, .int (nI le)), (4, .int (nI ci))]) hx hb d_M_count_50 hl (by decide) rfl (fun ls hl => ?_)
            refine lv_iload hx hb d_M_count_52 (lv_at hl 0 rfl) ?_
            refine lv_iload_n hx hb d_M_count_54 rfl (lv_at hl 3 rfl) ?_
            refine lv_icmp_le (tgt := 63) hx hb d_M_count_55 (by decide) (fun c4 => ?_) (fun c4 => ?_)
            · replace c4 : (zn G nn (ci + 1)) - ci ≤ mo := (nI_leI (a := (zn G nn (ci + 1)) - ci) (b := mo) (by omega) (by omega)).mp c4
              refine lv_iload_n hx hb d_M_count_63 rfl (lv_at hl 3 rfl) ?_
              refine lv_istore_n (lv' := [(2, .int (nI mo)), (5, .int (nI ((zn G nn (ci + 1)) - ci))), (0, .ref h0), (1, .int x), (3, .int (nI le)), (4, .int (nI ci))]) hx hb d_M_count_64 rfl hl (by decide) rfl (fun ls hl => ?_)
              refine lv_iload hx hb d_M_count_65 (lv_at hl 1 rfl) ?_
              refine lv_iload_n hx hb d_M_count_67 rfl (lv_at hl 4 rfl) ?_
              refine lv_icmp_ge (tgt := 76) hx hb d_M_count_68 (by decide) (fun c5 => ?_) (fun c5 => ?_)
              · replace c5 : le ≤ (zn G nn (ci + 1)) - ci := (nI_leI (a := le) (b := (zn G nn (ci + 1)) - ci) (by omega) (by omega)).mp c5
                refine lv_iload_n hx hb d_M_count_76 rfl (lv_at hl 4 rfl) ?_
                refine lv_istore_n (lv' := [(3, .int (nI le)), (2, .int (nI mo)), (5, .int (nI ((zn G nn (ci + 1)) - ci))), (0, .ref h0), (1, .int x), (4, .int (nI ci))]) hx hb d_M_count_77 rfl hl (by decide) rfl (fun ls hl => ?_)
                refine lv_aload_n hx hb d_M_count_78 rfl (lv_at hl 3 rfl) ?_
                refine lv_iload hx hb d_M_count_79 (lv_at hl 5 rfl) ?_
                refine cc_Vi (wc := [(h0, .inr (1, [.int (zv (!true)), .int (nI nn), .ref h1])), (h1, .inl (cA, 16385, .inl F))]) (wr := []) (tys' := [(cA, .boolean)]) ⟨hx, hb, hml, hown, hts⟩ hP hD hK hS hA [0, 1] [] [0] rfl rfl rfl (by decide) (by decide) (by decide) rfl (cM_behind l dC dI h0 h1 cA _ F G nn (zv (!true)) hF ci hlt g1 g3) (cwV 1 hts g_M_36 rfl rfl rfl (by decide +kernel) ⟨Nat.le_of_ble_eq_true rfl, Nat.le_of_ble_eq_true rfl⟩) 0 1 rfl rfl rfl rfl hl.1 rfl (Nat.le_of_ble_eq_true rfl) d_M_count_81 ⟨Nat.le_of_ble_eq_true rfl, Nat.le_of_ble_eq_true rfl⟩ (fun r_9 u H locs hw hP hD hS => ?_)
                replace hP : va_P (dC, dI) vwCl [(h0, .inr (1, [.int (zv (!true)), .int (nI nn), .ref h1])), (h1, .inl (cA, 16385, .inl F))] H := hP
                replace hD : va_D A [(h0, .inr (1, [.int (zv (!true)), .int (nI nn), .ref h1])), (h1, .inl (cA, 16385, .inl F))] := hD
                subst hw
                have zg2 := zn_ge G nn (ci + 1)
                have zh2 : zn G nn (ci + 1) ≤ nn := zn_le (by omega)
                have e5 : zF max G nn (zc G nn - (i + 1)) (zn G nn (ci + 1)) mo = zF max G nn (zc G nn) 0 0 := by (rw [← j4, show zc G nn - i = (zc G nn - (i + 1)) + 1 by omega]; exact congrArg (zF max G nn (zc G nn - (i + 1)) (zn G nn (ci + 1))) (show mo = max mo (zn G nn (ci + 1) - ci) by omega))
                have e6 : zF min G nn (zc G nn - (i + 1)) (zn G nn (ci + 1)) le = zF min G nn (zc G nn) 0 16384 := by (rw [← j5, show zc G nn - i = (zc G nn - (i + 1)) + 1 by omega]; exact congrArg (zF min G nn (zc G nn - (i + 1)) (zn G nn (ci + 1))) (show le = min le (zn G nn (ci + 1) - ci) by omega))
                have e8 : mo ≤ 16384 := by omega
                have e9 : le ≤ 16384 := by omega
                refine lv_istore (lv' := [(4, .int (nI (zn G nn (ci + 1)))), (3, .int (nI le)), (2, .int (nI mo)), (5, .int (nI ((zn G nn (ci + 1)) - ci))), (0, .ref h0), (1, .int x)]) hx hb d_M_count_84 hl (by decide) rfl (fun ls hl => ?_)
                refine lv_goto (tgt := 32) hx hb d_M_count_86 (by decide) ?_
                apply ih (ls := ls) (H := H) (locs := locs) (mo := mo) (le := le) (ci := zn G nn (ci + 1)) (i := i + 1) <;> first | assumption | exact lv_sub hl [4, 5, 2, 1, 0] rfl | omega
              · replace c5 : ¬ (le ≤ (zn G nn (ci + 1)) - ci) := fun h9 => c5 ((nI_leI (a := le) (b := (zn G nn (ci + 1)) - ci) (by omega) (by omega)).mpr h9)
                refine lv_iload hx hb d_M_count_71 (lv_at hl 1 rfl) ?_
                refine lv_goto (tgt := 77) hx hb d_M_count_73 (by decide) ?_
                refine lv_istore_n (lv' := [(3, .int (nI ((zn G nn (ci + 1)) - ci))), (2, .int (nI mo)), (5, .int (nI ((zn G nn (ci + 1)) - ci))), (0, .ref h0), (1, .int x), (4, .int (nI ci))]) hx hb d_M_count_77 rfl hl (by decide) rfl (fun ls hl => ?_)
                refine lv_aload_n hx hb d_M_count_78 rfl (lv_at hl 3 rfl) ?_
                refine lv_iload hx hb d_M_count_79 (lv_at hl 5 rfl) ?_
                refine cc_Vi (wc := [(h0, .inr (1, [.int (zv (!true)), .int (nI nn), .ref h1])), (h1, .inl (cA, 16385, .inl F))]) (wr := []) (tys' := [(cA, .boolean)]) ⟨hx, hb, hml, hown, hts⟩ hP hD hK hS hA [0, 1] [] [0] rfl rfl rfl (by decide) (by decide) (by decide) rfl (cM_behind l dC dI h0 h1 cA _ F G nn (zv (!true)) hF ci hlt g1 g3) (cwV 1 hts g_M_36 rfl rfl rfl (by decide +kernel) ⟨Nat.le_of_ble_eq_true rfl, Nat.le_of_ble_eq_true rfl⟩) 0 1 rfl rfl rfl rfl hl.1 rfl (Nat.le_of_ble_eq_true rfl) d_M_count_81 ⟨Nat.le_of_ble_eq_true rfl, Nat.le_of_ble_eq_true rfl⟩ (fun r_9 u H locs hw hP hD hS => ?_)
                replace hP : va_P (dC, dI) vwCl [(h0, .inr (1, [.int (zv (!true)), .int (nI nn), .ref h1])), (h1, .inl (cA, 16385, .inl F))] H := hP
                replace hD : va_D A [(h0, .inr (1, [.int (zv (!true)), .int (nI nn), .ref h1])), (h1, .inl (cA, 16385, .inl F))] := hD
                subst hw
                have zg2 := zn_ge G nn (ci + 1)
                have zh2 : zn G nn (ci + 1) ≤ nn := zn_le (by omega)
                have e5 : zF max G nn (zc G nn - (i + 1)) (zn G nn (ci + 1)) mo = zF max G nn (zc G nn) 0 0 := by (rw [← j4, show zc G nn - i = (zc G nn - (i + 1)) + 1 by omega]; exact congrArg (zF max G nn (zc G nn - (i + 1)) (zn G nn (ci + 1))) (show mo = max mo (zn G nn (ci + 1) - ci) by omega))
                have e6 : zF min G nn (zc G nn - (i + 1)) (zn G nn (ci + 1)) (zn G nn (ci + 1) - ci) = zF min G nn (zc G nn) 0 16384 := by (rw [← j5, show zc G nn - i = (zc G nn - (i + 1)) + 1 by omega]; exact congrArg (zF min G nn (zc G nn - (i + 1)) (zn G nn (ci + 1))) (show (zn G nn (ci + 1) - ci) = min le (zn G nn (ci + 1) - ci) by omega))
                have e8 : mo ≤ 16384 := by omega
                have e9 : (zn G nn (ci + 1) - ci) ≤ 16384 := by omega
                refine lv_istore (lv' := [(4, .int (nI (zn G nn (ci + 1)))), (3, .int (nI ((zn G nn (ci + 1)) - ci))), (2, .int (nI mo)), (5, .int (nI ((zn G nn (ci + 1)) - ci))), (0, .ref h0), (1, .int x)]) hx hb d_M_count_84 hl (by decide) rfl (fun ls hl => ?_)
                refine lv_goto (tgt := 32) hx hb d_M_count_86 (by decide) ?_
                apply ih (ls := ls) (H := H) (locs := locs) (mo := mo) (le := (zn G nn (ci + 1) - ci)) (ci := zn G nn (ci + 1)) (i := i + 1) <;> first | assumption | exact lv_sub hl [4, 5, 2, 1, 0] rfl | omega
            · replace c4 : ¬ ((zn G nn (ci + 1)) - ci ≤ mo) := fun h9 => c4 ((nI_leI (a := (zn G nn (ci + 1)) - ci) (b := mo) (by omega) (by omega)).mpr h9)
              refine lv_iload hx hb d_M_count_58 (lv_at hl 0 rfl) ?_
              refine lv_goto (tgt := 64) hx hb d_M_count_60 (by decide) ?_
              refine lv_istore_n (lv' := [(2, .int (nI ((zn G nn (ci + 1)) - ci))), (5, .int (nI ((zn G nn (ci + 1)) - ci))), (0, .ref h0), (1, .int x), (3, .int (nI le)), (4, .int (nI ci))]) hx hb d_M_count_64 rfl hl (by decide) rfl (fun ls hl => ?_)
              refine lv_iload hx hb d_M_count_65 (lv_at hl 1 rfl) ?_
              refine lv_iload_n hx hb d_M_count_67 rfl (lv_at hl 4 rfl) ?_
              refine lv_icmp_ge (tgt := 76) hx hb d_M_count_68 (by decide) (fun c5 => ?_) (fun c5 => ?_)
              · replace c5 : le ≤ (zn G nn (ci + 1)) - ci := (nI_leI (a := le) (b := (zn G nn (ci + 1)) - ci) (by omega) (by omega)).mp c5
                refine lv_iload_n hx hb d_M_count_76 rfl (lv_at hl 4 rfl) ?_
                refine lv_istore_n (lv' := [(3, .int (nI le)), (2, .int (nI ((zn G nn (ci + 1)) - ci))), (5, .int (nI ((zn G nn (ci + 1)) - ci))), (0, .ref h0), (1, .int x), (4, .int (nI ci))]) hx hb d_M_count_77 rfl hl (by decide) rfl (fun ls hl => ?_)
                refine lv_aload_n hx hb d_M_count_78 rfl (lv_at hl 3 rfl) ?_
                refine lv_iload hx hb d_M_count_79 (lv_at hl 5 rfl) ?_
                refine cc_Vi (wc := [(h0, .inr (1, [.int (zv (!true)), .int (nI nn), .ref h1])), (h1, .inl (cA, 16385, .inl F))]) (wr := []) (tys' := [(cA, .boolean)]) ⟨hx, hb, hml, hown, hts⟩ hP hD hK hS hA [0, 1] [] [0] rfl rfl rfl (by decide) (by decide) (by decide) rfl (cM_behind l dC dI h0 h1 cA _ F G nn (zv (!true)) hF ci hlt g1 g3) (cwV 1 hts g_M_36 rfl rfl rfl (by decide +kernel) ⟨Nat.le_of_ble_eq_true rfl, Nat.le_of_ble_eq_true rfl⟩) 0 1 rfl rfl rfl rfl hl.1 rfl (Nat.le_of_ble_eq_true rfl) d_M_count_81 ⟨Nat.le_of_ble_eq_true rfl, Nat.le_of_ble_eq_true rfl⟩ (fun r_9 u H locs hw hP hD hS => ?_)
                replace hP : va_P (dC, dI) vwCl [(h0, .inr (1, [.int (zv (!true)), .int (nI nn), .ref h1])), (h1, .inl (cA, 16385, .inl F))] H := hP
                replace hD : va_D A [(h0, .inr (1, [.int (zv (!true)), .int (nI nn), .ref h1])), (h1, .inl (cA, 16385, .inl F))] := hD
                subst hw
                have zg2 := zn_ge G nn (ci + 1)
                have zh2 : zn G nn (ci + 1) ≤ nn := zn_le (by omega)
                have e5 : zF max G nn (zc G nn - (i + 1)) (zn G nn (ci + 1)) (zn G nn (ci + 1) - ci) = zF max G nn (zc G nn) 0 0 := by (rw [← j4, show zc G nn - i = (zc G nn - (i + 1)) + 1 by omega]; exact congrArg (zF max G nn (zc G nn - (i + 1)) (zn G nn (ci + 1))) (show (zn G nn (ci + 1) - ci) = max mo (zn G nn (ci + 1) - ci) by omega))
                have e6 : zF min G nn (zc G nn - (i + 1)) (zn G nn (ci + 1)) le = zF min G nn (zc G nn) 0 16384 := by (rw [← j5, show zc G nn - i = (zc G nn - (i + 1)) + 1 by omega]; exact congrArg (zF min G nn (zc G nn - (i + 1)) (zn G nn (ci + 1))) (show le = min le (zn G nn (ci + 1) - ci) by omega))
                have e8 : (zn G nn (ci + 1) - ci) ≤ 16384 := by omega
                have e9 : le ≤ 16384 := by omega
                refine lv_istore (lv' := [(4, .int (nI (zn G nn (ci + 1)))), (3, .int (nI le)), (2, .int (nI ((zn G nn (ci + 1)) - ci))), (5, .int (nI ((zn G nn (ci + 1)) - ci))), (0, .ref h0), (1, .int x)]) hx hb d_M_count_84 hl (by decide) rfl (fun ls hl => ?_)
                refine lv_goto (tgt := 32) hx hb d_M_count_86 (by decide) ?_
                apply ih (ls := ls) (H := H) (locs := locs) (mo := (zn G nn (ci + 1) - ci)) (le := le) (ci := zn G nn (ci + 1)) (i := i + 1) <;> first | assumption | exact lv_sub hl [4, 5, 2, 1, 0] rfl | omega
              · replace c5 : ¬ (le ≤ (zn G nn (ci + 1)) - ci) := fun h9 => c5 ((nI_leI (a := le) (b := (zn G nn (ci + 1)) - ci) (by omega) (by omega)).mpr h9)
                refine lv_iload hx hb d_M_count_71 (lv_at hl 1 rfl) ?_
                refine lv_goto (tgt := 77) hx hb d_M_count_73 (by decide) ?_
                refine lv_istore_n (lv' := [(3, .int (nI ((zn G nn (ci + 1)) - ci))), (2, .int (nI ((zn G nn (ci + 1)) - ci))), (5, .int (nI ((zn G nn (ci + 1)) - ci))), (0, .ref h0), (1, .int x), (4, .int (nI ci))]) hx hb d_M_count_77 rfl hl (by decide) rfl (fun ls hl => ?_)
                refine lv_aload_n hx hb d_M_count_78 rfl (lv_at hl 3 rfl) ?_
                refine lv_iload hx hb d_M_count_79 (lv_at hl 5 rfl) ?_
                refine cc_Vi (wc := [(h0, .inr (1, [.int (zv (!true)), .int (nI nn), .ref h1])), (h1, .inl (cA, 16385, .inl F))]) (wr := []) (tys' := [(cA, .boolean)]) ⟨hx, hb, hml, hown, hts⟩ hP hD hK hS hA [0, 1] [] [0] rfl rfl rfl (by decide) (by decide) (by decide) rfl (cM_behind l dC dI h0 h1 cA _ F G nn (zv (!true)) hF ci hlt g1 g3) (cwV 1 hts g_M_36 rfl rfl rfl (by decide +kernel) ⟨Nat.le_of_ble_eq_true rfl, Nat.le_of_ble_eq_true rfl⟩) 0 1 rfl rfl rfl rfl hl.1 rfl (Nat.le_of_ble_eq_true rfl) d_M_count_81 ⟨Nat.le_of_ble_eq_true rfl, Nat.le_of_ble_eq_true rfl⟩ (fun r_9 u H locs hw hP hD hS => ?_)
                replace hP : va_P (dC, dI) vwCl [(h0, .inr (1, [.int (zv (!true)), .int (nI nn), .ref h1])), (h1, .inl (cA, 16385, .inl F))] H := hP
                replace hD : va_D A [(h0, .inr (1, [.int (zv (!true)), .int (nI nn), .ref h1])), (h1, .inl (cA, 16385, .inl F))] := hD
                subst hw
                have zg2 := zn_ge G nn (ci + 1)
                have zh2 : zn G nn (ci + 1) ≤ nn := zn_le (by omega)
                have e5 : zF max G nn (zc G nn - (i + 1)) (zn G nn (ci + 1)) (zn G nn (ci + 1) - ci) = zF max G nn (zc G nn) 0 0 := by (rw [← j4, show zc G nn - i = (zc G nn - (i + 1)) + 1 by omega]; exact congrArg (zF max G nn (zc G nn - (i + 1)) (zn G nn (ci + 1))) (show (zn G nn (ci + 1) - ci) = max mo (zn G nn (ci + 1) - ci) by omega))
                have e6 : zF min G nn (zc G nn - (i + 1)) (zn G nn (ci + 1)) (zn G nn (ci + 1) - ci) = zF min G nn (zc G nn) 0 16384 := by (rw [← j5, show zc G nn - i = (zc G nn - (i + 1)) + 1 by omega]; exact congrArg (zF min G nn (zc G nn - (i + 1)) (zn G nn (ci + 1))) (show (zn G nn (ci + 1) - ci) = min le (zn G nn (ci + 1) - ci) by omega))
                have e8 : (zn G nn (ci + 1) - ci) ≤ 16384 := by omega
                have e9 : (zn G nn (ci + 1) - ci) ≤ 16384 := by omega
                refine lv_istore (lv' := [(4, .int (nI (zn G nn (ci + 1)))), (3, .int (nI ((zn G nn (ci + 1)) - ci))), (2, .int (nI ((zn G nn (ci + 1)) - ci))), (5, .int (nI ((zn G nn (ci + 1)) - ci))), (0, .ref h0), (1, .int x)]) hx hb d_M_count_84 hl (by decide) rfl (fun ls hl => ?_)
                refine lv_goto (tgt := 32) hx hb d_M_count_86 (by decide) ?_
                apply ih (ls := ls) (H := H) (locs := locs) (mo := (zn G nn (ci + 1) - ci)) (le := (zn G nn (ci + 1) - ci)) (ci := zn G nn (ci + 1)) (i := i + 1) <;> first | assumption | exact lv_sub hl [4, 5, 2, 1, 0] rfl | omega
      · exact absurd c9 (by decide)
set_option maxHeartbeats 4000000 in
set_option maxRecDepth 100000 in
/-- StartTableModel() -/
theorem cM_init (l : Launch) (dC : Nat → ClassId) (dI : Nat → Nat → Nat) (h0 : Nat) (sz : Nat) : Met l y_M_init ws_M_init ({ frames := 1, cells := 1, slots := 16385, locals := 20 }) (va_Pc [.ref h0] (cc_P (dC, dI) vwCl ([(h0, .inr (1, [.int 0, .int 0, .null]))] : va_W) [] sz)) (va_Qv (S := Nat × ClassId × (Nat → Int32)) (fun u => MF u.2.2 (fun j => decide (j = 0 ∨ j = 1024))) (fun u t => cc_B (dC, dI) vwCl (tM u.2.1) (va_A ([(h0, .inr (1, [.int 0, .int 0, .null]))] : va_W) sz) (wM h0 u.1 u.2.1 0 (nI 1024) u.2.2) t) (va_A ([(h0, .inr (1, [.int 0, .int 0, .null]))] : va_W) sz)) 1 16385 (va_A ([(h0, .inr (1, [.int 0, .int 0, .null]))] : va_W) sz) := by
  refine Met.ofW (cc := c_M_init) (maxL := 1) (ret := none) (by decide) rfl ?_
  intro p e s m args below meth c s₁ B hml hv
  obtain ⟨rfl, hsz, hP, hK, hD0⟩ := hv
  have hx := B.exec
  have hb := B.bytes
  have hr := B.returns
  have hts : ∀ w ∈ zAll, w.before _ s = true := fun w h => atoms_spec (ws := ws_M_init) B.pre w (List.mem_cons_of_mem _ h)
  have hown : s.vm.findClass RM = some m.cls := findClass_of_methodNamed B.named
  have hlocks := B.notSynchronized
  have hin : meth.name = "<init>" := (name_of_methodNamed B.named B.method).1
  subst hsz
  have hD := hD0.self (sz := s.heap.size)
  generalize hAe : va_A ([(h0, .inr (1, [.int 0, .int 0, .null]))] : va_W) s.heap.size = A at hD ⊢
  have hA : ∀ q : Nat, s.heap.size ≤ q → A q := fun q h => by rw [← hAe]; exact Or.inr h
  have hS : va_S A s.heap s.heap [] := va_S.rf
  replace hP : va_P (dC, dI) vwCl [(h0, .inr (1, [.int 0, .int 0, .null]))] s.heap := hP
  replace hD : va_D A [(h0, .inr (1, [.int 0, .int 0, .null]))] := hD
  have hl := lv_entry ([.ref h0]) (n := 1) (Nat.le_of_ble_eq_true rfl)
  rw [lg_entry_eq]
  generalize (lg_sl ([.ref h0]) ++ List.replicate (1 - (lg_sl ([.ref h0])).length) Slot.unset).toArray = ls at hl ⊢
  replace hl : lv_has ls 1 [(0, .ref h0)] := hl
  refine lv_aload_n hx hb d_M_init_0 rfl (lv_at hl 0 rfl) ?_
  refine W.objInit hx hb hown (hts _ wl_M_1) (hts _ wim_obj) (hts _ wc_obj) rfl (by rw [hml]; exact hl.1) rfl d_M_init_1 (Nat.le_of_ble_eq_true rfl) (Nat.le_of_ble_eq_true rfl) ?_
  refine W.eq (g2 := F0 m 4 ls []) rfl ?_
  refine lv_aload_n hx hb d_M_init_4 rfl (lv_at hl 0 rfl) ?_
  refine lv_sipush (v := nI 1024) hx hb d_M_init_5 (by decide) ?_
  refine va_put (D := (dC, dI)) (ci := 1) (v := .int (nI 1024)) (ty := .int) (C := RM) (T := TM) (N := 3) hx hb hts inM tyM tyM_ok nmM hown hK hP hD hS 0 rfl rfl 1 (by decide) (hts _ wl_M_7) (fun _ h9 => h9) rfl (by decide +kernel) rfl rfl (Nat.le_of_ble_eq_true rfl) d_M_init_8 (fun H locs hP hD hS => ?_)
  replace hP : va_P (dC, dI) vwCl [(h0, .inr (1, [.int 0, .int (nI 1024), .null]))] H := hP
  replace hD : va_D A [(h0, .inr (1, [.int 0, .int (nI 1024), .null]))] := hD
  refine lv_aload_n hx hb d_M_init_11 rfl (lv_at hl 0 rfl) ?_
  refine lv_sipush (v := nI 16385) hx hb d_M_init_12 (by decide) ?_
  refine va_newa (atype := .boolean) (N' := 16385) (a0 := (16385, .inl (fun _ => 0))) (ty := .boolean) (n := nI 16385) hx hb (hts _ wac_bool) rfl hK hP hD hS hA (fun _ => rfl) (by decide) (by decide) (by decide) (by decide) (by decide) d_M_init_15 (fun h1 cA H hK hP hD hS => ?_)
  replace hK : va_K (dC, dI) vwCl [(cA, .boolean)] s := hK
  replace hP : va_P (dC, dI) vwCl [(h0, .inr (1, [.int 0, .int (nI 1024), .null])), (h1, .inl (cA, 16385, .inl (fun _ => 0)))] H := hP
  replace hD : va_D A [(h0, .inr (1, [.int 0, .int (nI 1024), .null])), (h1, .inl (cA, 16385, .inl (fun _ => 0)))] := hD
  refine W.widen (k := 1) (n := 16385) (by decide) (by decide) ?_
  refine va_putF (D := (dC, dI)) (ci := 1) (v := .ref h1) (ty := .array .boolean) (C := RM) (T := TM) (N := 3) hx hb hts inM tyM tyM_ok nmM hown hK hP hD hS 0 rfl rfl 2 (by decide) (hts _ wl_M_13) (fun _ h9 => h9) rfl hin rfl (by decide +kernel) rfl rfl (Nat.le_of_ble_eq_true rfl) d_M_init_17 (fun H locs hP hD hS => ?_)
  replace hP : va_P (dC, dI) vwCl [(h0, .inr (1, [.int 0, .int (nI 1024), .ref h1])), (h1, .inl (cA, 16385, .inl (fun _ => 0)))] H := hP
  replace hD : va_D A [(h0, .inr (1, [.int 0, .int (nI 1024), .ref h1])), (h1, .inl (cA, 16385, .inl (fun _ => 0)))] := hD
  refine lv_aload_n hx hb d_M_init_20 rfl (lv_at hl 0 rfl) ?_
  refine va_get (D := (dC, dI)) (ci := 1) (v := .ref h1) (C := RM) (T := TM) (N := 3) hx hb hts inM hown hK hP 0 rfl rfl 2 (by decide) (hts _ wl_M_13) (fun _ h9 => h9) rfl d_M_init_21 ?_
  refine lv_iconst (v := nI 0) hx hb d_M_init_24 (by decide) ?_
  refine lv_iconst (v := nI 1) hx hb d_M_init_25 (by decide) ?_
  refine va_zast hx hb hK hP hD hS 1 0 rfl rfl (vp_in_nI (by omega) (by decide)) d_M_init_26 (fun H locs hP hD hS => ?_)
  rw [nI_clamp (by omega)] at hP hD
  rw [show vp_nar .boolean (nI 1) = nI 1 from by decide +kernel] at hP hD
  replace hP : va_P (dC, dI) vwCl [(h0, .inr (1, [.int 0, .int (nI 1024), .ref h1])), (h1, .inl (cA, 16385, .inl (upd (fun _ => 0) 0 (nI 1))))] H := hP
  replace hD : va_D A [(h0, .inr (1, [.int 0, .int (nI 1024), .ref h1])), (h1, .inl (cA, 16385, .inl (upd (fun _ => 0) 0 (nI 1))))] := hD
  refine lv_aload_n hx hb d_M_init_27 rfl (lv_at hl 0 rfl) ?_
  refine va_get (D := (dC, dI)) (ci := 1) (v := .ref h1) (C := RM) (T := TM) (N := 3) hx hb hts inM hown hK hP 0 rfl rfl 2 (by decide) (hts _ wl_M_13) (fun _ h9 => h9) rfl d_M_init_28 ?_
  refine lv_sipush (v := nI 1024) hx hb d_M_init_31 (by decide) ?_
  refine lv_iconst (v := nI 1) hx hb d_M_init_34 (by decide) ?_
  refine va_zast hx hb hK hP hD hS 1 0 rfl rfl (vp_in_nI (by omega) (by decide)) d_M_init_35 (fun H locs hP hD hS => ?_)
  rw [nI_clamp (by omega)] at hP hD
  rw [show vp_nar .boolean (nI 1) = nI 1 from by decide +kernel] at hP hD
  replace hP : va_P (dC, dI) vwCl [(h0, .inr (1, [.int 0, .int (nI 1024), .ref h1])), (h1, .inl (cA, 16385, .inl (upd (upd (fun _ => 0) 0 (nI 1)) 1024 (nI 1))))] H := hP
  replace hD : va_D A [(h0, .inr (1, [.int 0, .int (nI 1024), .ref h1])), (h1, .inl (cA, 16385, .inl (upd (upd (fun _ => 0) 0 (nI 1)) 1024 (nI 1))))] := hD
  refine W.widen (k := 1) (n := 16385) (by decide) (by decide) ?_
  exact W.vret hx hb hr (fun t9 ht9 hW9 => ⟨⟨(h1, cA, upd (upd (fun _ => 0) 0 (nI 1)) 1024 (nI 1)), rfl, MF_init, by rw [ht9]; exact hP, va_K.moved hW9.alike hK, hD⟩, hS.F ht9⟩) hS.2.2 d_M_init_36
end
section
/-! THE LAW'S CALLS: a wrapper with a table, a constructor; what the start gives -/
theorem wl_L_13 : Cond.classLink RL 13 "java/lang/IllegalArgumentException" ∈ zAll := by decide +kernel
theorem wl_L_18 : Cond.classLink RL 18 "java/lang/IndexOutOfBoundsException" ∈ zAll := by decide +kernel
theorem wzb_IAE : Cond.castable "java/lang/IllegalArgumentException" "java/lang/IllegalArgumentException" ∈ zBad := by decide +kernel
theorem wzb_IOOBE : Cond.castable "java/lang/IndexOutOfBoundsException" "java/lang/IndexOutOfBoundsException" ∈ zBad := by decide +kernel
abbrev wXO (h0 h1 h2 o0 : Nat) (cA cB cO : ClassId) (M S : Nat → Int32) (n p : Int32) (fo : Nat → Int64) : va_W := [(h0, .inr (0, [.ref h1, .ref h2, .int n, .int p])), (h1, .inl (cA, 512, .inl M)), (h2, .inl (cB, 512, .inl S)), (o0, .inl (cO, 1, .inr (.inl fo)))]
abbrev tXO (cA cB cO : ClassId) : List (ClassId × FieldType) := [(cA, .int), (cB, .int), (cO, .long)]
section CW
variable {p : Program} {l : Launch} {e : Env} {R : Room} {s : State} {m : MethodId} {args : Array Value} {below : List Frame} {meth : Method} {c : Code} {H : Heap} {locs : List Loc} {cells slots : Nat} {Q : State → Prop}
variable {y : MethodName} {bytes cc : ByteArray} {maxL nL mc ms n index : Nat} {ret : Option FieldType} {ws : List Cond} {rm : Room} {Ts : List Cond} {own C : String} {b : Addr} {As rest st0 : List Value} {pc : Nat} {ls : Array Slot}
variable {D : va_G} {cl : List vw_C} {A0 : Nat → Prop} {H0 : Heap} {w0 wc wr : va_W} {tys tys' : List (ClassId × FieldType)}
/-- a static method with a table of its own -/
theorem cw_Si {S : Type} {post : Int32 → S → Prop} {WW : S → va_W} {hh : List (Nat × Nat × Nat × Nat)} (S9 : CallFix p m c cc nL s args Ts own) (hP : va_P D cl w0 H) (hD : va_D A0 w0) (hK : va_K D cl tys s) (hS : va_S A0 s.heap H locs) (hA : ∀ q, s.heap.size ≤ q → A0 q) (hZ : zThr A0 s s.heap)
    (isC isR isK : List Nat) (hC : isC.map (fun i => w0[i]?) = wc.map some) (hC2 : isC.filterMap (fun i => w0[i]?) = wc) (hR : isR.map (fun i => w0[i]?) = wr.map some) (hn : va_nd isR = true) (hnc : va_nd isC = true) (hdis : ∀ i ∈ isR, i ∉ isC) (hKs : isK.filterMap (fun i => tys[i]?) = tys')
    (hM : Met l y ws rm (va_Pc As (cx_P D cl wc tys' H.size)) (va_Qi post (fun u t => cc_B D cl tys' (va_A wc H.size) (WW u) t) (va_A wc H.size)) mc ms (va_A wc H.size))
    (cw : vx_CSW R s args own index y bytes maxL ret hh ws rm mc ms n)
    (hn2 : As.length = n) (hsize : ls.size = nL) (hst : st0 = As.reverse ++ rest) (hW : (rest.map fun v => v.category).sum ≤ 8) (hdg : decode cc pc = .ok (.invokestatic index, 3)) (hf : cells + mc ≤ R.cells ∧ slots + ms ≤ R.slots)
    (kk : ∀ (r : Int32) (u : S) (H1 : Heap) (locs1 : List Loc), post r u → va_P D cl (wr ++ WW u) H1 → va_D A0 (wr ++ WW u) → va_S A0 s.heap H1 locs1 → W p l e R s m args below meth c H1 locs1 (cells + mc) (slots + ms) Q (F0 m (pc + 3) ls (.int r :: rest))) :
    W p l e R s m args below meth c H locs cells slots Q (F0 m pc ls st0) := by
  have hPc := hP.sub (ws' := wc) isC hC2
  have hDc := hD.sub (ws' := wc) isC hnc hC
  have hKc := hK.sub (tys' := tys') isK hKs
  have hFc := va_free (wc := wc) hD hS hA isC hC
  refine va_calli (vx_runSW (As := As) (rest := rest) S9 hM cw ⟨cx_blind, cx_pre hPc hKc hDc hZ hS hFc⟩ rfl hn2 hsize hst (lv_room hW) hdg hf) hS (fun q _ h => hFc q h) hFc (fun r u t H1 locs1 ht hvm hw hB hz1 hk1 hS1 => ?_)
  obtain ⟨hP1, hK1, hD1⟩ := hB
  rw [ht] at hP1
  obtain ⟨hP2, hD2⟩ := va_join (wr := wr) (w1 := WW u) hP hD isC isR hC hR hn hdis hk1 hFc hP1 hD1
  exact kk r u H1 locs1 hw hP2 hD2 hS1
/-- a constructor: its arrays' classes come with the world -/
theorem cc_I {S : Type} {post : S → Prop} {WW : S → va_W} {TT : S → List (ClassId × FieldType)} (S9 : CallFix p m c cc nL s args Ts own) (hP : va_P D cl w0 H) (hD : va_D A0 w0) (hK : va_K D cl tys s) (hS : va_S A0 H0 H locs) (hA : ∀ q, H0.size ≤ q → A0 q)
    (isC isR isK : List Nat) (hC : isC.map (fun i => w0[i]?) = wc.map some) (hC2 : isC.filterMap (fun i => w0[i]?) = wc) (hR : isR.map (fun i => w0[i]?) = wr.map some) (hn : va_nd isR = true) (hnc : va_nd isC = true) (hdis : ∀ i ∈ isR, i ∉ isC) (hKs : isK.filterMap (fun i => tys[i]?) = tys')
    (hM : Met l y ws rm (va_Pc (.ref b :: As) (cc_P D cl wc tys' H.size)) (va_Qv post (fun u t => cc_B D cl (TT u) (va_A wc H.size) (WW u) t) (va_A wc H.size)) mc ms (va_A wc H.size))
    (cw : CallB R s args own index y bytes maxL none ws rm mc ms n ∧ y.name = "<init>" ∧ (Cond.instanceMethod y).before args s = true)
    (hn2 : As.length = n) (hsize : ls.size = nL) (hst : st0 = As.reverse ++ .ref b :: rest) (hW : (rest.map fun v => v.category).sum ≤ 8) (hdg : decode cc pc = .ok (.invokespecial index, 3)) (hf : cells + mc ≤ R.cells ∧ slots + ms ≤ R.slots)
    (kk : ∀ (u : S) (H1 : Heap) (locs1 : List Loc), post u → va_K D cl (tys ++ TT u) s → va_P D cl (wr ++ WW u) H1 → va_D A0 (wr ++ WW u) → va_S A0 H0 H1 locs1 → W p l e R s m args below meth c H1 locs1 (cells + mc) (slots + ms) Q (F0 m (pc + 3) ls rest)) :
    W p l e R s m args below meth c H locs cells slots Q (F0 m pc ls st0) := by
  have hPc := hP.sub (ws' := wc) isC hC2
  have hDc := hD.sub (ws' := wc) isC hnc hC
  have hKc := hK.sub (tys' := tys') isK hKs
  have hFc := va_free (wc := wc) hD hS hA isC hC
  refine va_callv (va_runI (As := As) (rest := rest) S9 hM cw ⟨cc_blind, cc_pre hPc hKc hDc⟩ rfl hn2 hsize hst (lv_room hW) hdg hf) hS (fun q _ h => hFc q h) hFc (fun u t H1 locs1 ht hvm hw hB hz1 hk1 hS1 => ?_)
  obtain ⟨hP1, hK1, hD1⟩ := hB
  rw [ht] at hP1
  obtain ⟨hP2, hD2⟩ := va_join (wr := wr) (w1 := WW u) hP hD isC isR hC hR hn hdis hk1 hFc hP1 hD1
  exact kk u H1 locs1 hw (hK.app (va_K.moved hvm.symm hK1)) hP2 hD2 hS1
/-- the heap and the room by names: the law's loop -/
theorem cc_from2 {g : JFrame} {ca sa : Nat} (hP : va_P D cl w0 H) (hD : va_D A0 w0) (hS : va_S A0 H0 H locs) (hc : cells ≤ ca) (hs : slots ≤ sa) (k : ∀ (H1 : Heap) (locs1 : List Loc) (c1 s1 : Nat), va_P D cl w0 H1 → va_D A0 w0 → va_S A0 H0 H1 locs1 → c1 ≤ ca → s1 ≤ sa → W p l e R s m args below meth c H1 locs1 c1 s1 Q g) : W p l e R s m args below meth c H locs cells slots Q g := k H locs cells slots hP hD hS hc hs
end CW
theorem z_str {s : State} {b k : Nat} {own tx : String} (h1 : (Cond.stringRef own k tx).before #[Value.ref b] s = true) (h2 : (Cond.exactly (.string own k) "java/lang/String").before #[Value.ref b] s = true) : ∃ a, vk_R own k tx a s := by
  obtain ⟨a, c, cA, kA, q1, q2⟩ := Cond.exactly_spec (args := #[Value.ref b]) (first := s) (o := none) (s := s) (idx := []) h2
  exact ⟨a, vk_R.of h1 q1⟩
theorem zBad_in : ∀ w ∈ zBad, w ∈ lw_tbl := by decide +kernel
theorem zStr_in : ∀ q ∈ zTexts, Cond.stringRef q.1 q.2.1 q.2.2 ∈ lw_tbl := by decide +kernel
theorem zStr_ex : ∀ q ∈ zTexts, Cond.exactly (.string q.1 q.2.1) "java/lang/String" ∈ flatC (Jvm.Cond.and given_1 narrow_1) := by decide +kernel
theorem zThr_0 {s : State} {b : Nat} (hts : ∀ w ∈ lw_tbl, w.before #[Value.ref b] s = true) (hgv : (Jvm.Cond.and given_1 narrow_1).before #[Value.ref b] s = true) : zThr (fun q : Nat => s.heap.size ≤ q) s s.heap := by
  have hs := flat_of_before _ hgv
  have hA : ∀ a : Nat, a < s.heap.size → ¬ (fun q : Nat => s.heap.size ≤ q) a := fun a h => Nat.not_le.mpr h
  refine ⟨fun q hq => z_str (hts _ (zStr_in q hq)) (hs _ (zStr_ex q hq)), fun w hw => va_Nw.of (zBad_on w hw) (hts w (zBad_in w hw)), ?_, ?_⟩
  · exact vx_Zqof (hts _ (by decide +kernel)) (hts _ (by decide +kernel)) (hs _ (by decide +kernel)) hA
  · exact vx_Zqof (hts _ (by decide +kernel)) (hts _ (by decide +kernel)) (hs _ (by decide +kernel)) hA
end
section
set_option maxHeartbeats 4000000 in
set_option maxRecDepth 100000 in
/-- the law's own begin -/
theorem cL_begin (l : Launch) (hlt : l.stackTraces = false) (dC : Nat → ClassId) (dI : Nat → Nat → Nat) (h0 h1 h2 o0 : Nat) (cA cB cO : ClassId) (sz : Nat) (M S : Nat → Int32) (nn pp : Nat) (fo : Nat → Int64) (g0 : zCI nn pp M S) (x : Int32) : Met l y_L_begin ws_L_begin ({ frames := 8, cells := 1, slots := 6, locals := 132 }) (va_Pc [.ref h0, .int x, .ref o0] (cx_P (dC, dI) vwCl (wXO h0 h1 h2 o0 cA cB cO M S (nI nn) (nI pp) fo) (tXO cA cB cO) sz)) (va_Qi (S := (Nat × Nat × (Nat → Int32) × (Nat → Int32)) × (Nat → Int64)) (fun (r : Int32) (u : (Nat × Nat × (Nat → Int32) × (Nat → Int32)) × (Nat → Int64)) => (r = nI 0 ∧ ∃ rr : Int32, u.2 = vp_updL fo 0 rr.toInt64 ∧ u.1 = (nn, pp, M, S) ∧ ∃ k, k < nn ∧ x = nI k ∧ rr = nI (zb (zm M) k)) ∨ (r = nI 1 ∧ (¬ ∃ k, k < nn ∧ x = nI k) ∧ u = ((nn, pp, M, S), fo))) (fun u t => cc_B (dC, dI) vwCl (tXO cA cB cO) (va_A (wXO h0 h1 h2 o0 cA cB cO M S (nI nn) (nI pp) fo) sz) ((fun u : (Nat × Nat × (Nat → Int32) × (Nat → Int32)) × (Nat → Int64) => (wXO h0 h1 h2 o0 cA cB cO u.1.2.2.1 u.1.2.2.2 (nI u.1.1) (nI u.1.2.1) u.2)) u) t) (va_A (wXO h0 h1 h2 o0 cA cB cO M S (nI nn) (nI pp) fo) sz)) 1 6 (va_A (wXO h0 h1 h2 o0 cA cB cO M S (nI nn) (nI pp) fo) sz) := by
  refine va_MetW (cc := c_L_begin) (maxL := 4) (ret := (some .int)) (hh := [(0, 9, 12, 18)]) (by decide) rfl ?_
  intro p e s m args below meth c s₁ B hml hv
  obtain ⟨rfl, ⟨hsz, hP, hK, hD0⟩, hZ⟩ := hv
  have hx := B.exec
  have hb := B.bytes
  have hr := B.returns
  have hts : ∀ w ∈ zAll, w.before _ s = true := fun w h => atoms_spec (ws := ws_L_begin) B.pre w (List.mem_cons_of_mem _ h)
  have htab : c.exceptionTable.toList = tableOf [(0, 9, 12, 18)] := vx_table (x := y_L_begin) B (atoms_spec (ws := ws_L_begin) B.pre _ List.mem_cons_self)
  have hown : s.vm.findClass RL = some m.cls := findClass_of_methodNamed B.named
  have hlocks := B.notSynchronized
  subst hsz
  have hD := hD0.self (sz := s.heap.size)
  generalize hAe : va_A (wXO h0 h1 h2 o0 cA cB cO M S (nI nn) (nI pp) fo) s.heap.size = A at hD hZ ⊢
  have hA : ∀ q : Nat, s.heap.size ≤ q → A q := fun q h => by rw [← hAe]; exact Or.inr h
  have hS : va_S A s.heap s.heap [] := va_S.rf
  replace hP : va_P (dC, dI) vwCl [(h0, .inr (0, [.ref h1, .ref h2, .int (nI nn), .int (nI pp)])), (h1, .inl (cA, 512, .inl M)), (h2, .inl (cB, 512, .inl S)), (o0, .inl (cO, 1, .inr (.inl fo)))] s.heap := hP
  replace hD : va_D A [(h0, .inr (0, [.ref h1, .ref h2, .int (nI nn), .int (nI pp)])), (h1, .inl (cA, 512, .inl M)), (h2, .inl (cB, 512, .inl S)), (o0, .inl (cO, 1, .inr (.inl fo)))] := hD
  have hl := lv_entry ([.ref h0, .int x, .ref o0]) (n := 4) (Nat.le_of_ble_eq_true rfl)
  rw [lg_entry_eq]
  generalize (lg_sl ([.ref h0, .int x, .ref o0]) ++ List.replicate (4 - (lg_sl ([.ref h0, .int x, .ref o0])).length) Slot.unset).toArray = ls at hl ⊢
  replace hl : lv_has ls 4 [(0, .ref h0), (1, .int x), (2, .ref o0)] := hl
  refine lv_aload_n hx hb d_L_begin_0 rfl (lv_at hl 2 rfl) ?_
  refine lv_iconst (v := nI 0) hx hb d_L_begin_1 (by decide) ?_
  refine lv_aload_n hx hb d_L_begin_2 rfl (lv_at hl 0 rfl) ?_
  refine lv_iload_n hx hb d_L_begin_3 rfl (lv_at hl 1 rfl) ?_
  refine cx_Vi (wc := [(h0, .inr (0, [.ref h1, .ref h2, .int (nI nn), .int (nI pp)])), (h1, .inl (cA, 512, .inl M)), (h2, .inl (cB, 512, .inl S))]) (wr := [(o0, .inl (cO, 1, .inr (.inl fo)))]) (tys' := [(cA, .int), (cB, .int)]) ⟨hx, hb, hml, hown, hts⟩ hP hD hK hS hA hZ [0, 1, 2] [3] [0, 1] rfl rfl rfl (by decide) (by decide) (by decide) rfl (c_begin l hlt dC dI h0 h1 h2 cA cB _ M S nn pp g0 x) (cwV 1 hts g_L_27 rfl rfl rfl (by decide +kernel) ⟨Nat.le_of_ble_eq_true rfl, Nat.le_of_ble_eq_true rfl⟩) 0 0 rfl rfl rfl rfl hl.1 rfl (Nat.le_of_ble_eq_true rfl) d_L_begin_4 ⟨Nat.le_of_ble_eq_true rfl, Nat.le_of_ble_eq_true rfl⟩ (fun ce q9 H locs hbad hP hD hS y1 y2 y3 => ?_) (fun r_9 u H locs hw hP hD hS => ?_)
  · replace hP : va_P (dC, dI) vwCl [(o0, .inl (cO, 1, .inr (.inl fo))), (h0, .inr (0, [.ref h1, .ref h2, .int (nI nn), .int (nI pp)])), (h1, .inl (cA, 512, .inl M)), (h2, .inl (cB, 512, .inl S))] H := hP
    replace hD : va_D A [(o0, .inl (cO, 1, .inr (.inl fo))), (h0, .inr (0, [.ref h1, .ref h2, .int (nI nn), .int (nI pp)])), (h1, .inl (cA, 512, .inl M)), (h2, .inl (cB, 512, .inl S))] := hD
    refine vx_catch (pc := 4) hown [] ⟨0, 9, 12, 18⟩ [] htab (fun z h => absurd h List.not_mem_nil) (by decide) (by decide) (hts _ wl_L_18) (va_Nw.use (zBad_on _ wzb_IOOBE) (hZ.2.1 _ wzb_IOOBE)) y1 y2 y3 ?_
    refine W.eq (g2 := F0 m 12 ls [.ref q9]) rfl ?_
    refine lv_astore_n (lv' := [(3, .ref q9), (0, .ref h0), (1, .int x), (2, .ref o0)]) hx hb d_L_begin_12 rfl hl (by decide) rfl (fun ls hl => ?_)
    refine lv_iconst (v := nI 1) hx hb d_L_begin_13 (by decide) ?_
    replace hP := hP.sub (ws' := [(h0, .inr (0, [.ref h1, .ref h2, .int (nI nn), .int (nI pp)])), (h1, .inl (cA, 512, .inl M)), (h2, .inl (cB, 512, .inl S)), (o0, .inl (cO, 1, .inr (.inl fo)))]) [1, 2, 3, 0] rfl
    replace hD := hD.sub (ws' := [(h0, .inr (0, [.ref h1, .ref h2, .int (nI nn), .int (nI pp)])), (h1, .inl (cA, 512, .inl M)), (h2, .inl (cB, 512, .inl S)), (o0, .inl (cO, 1, .inr (.inl fo)))]) [1, 2, 3, 0] (by decide) rfl
    refine W.widen (k := 1) (n := 6) (by decide) (by decide) ?_
    exact W.iret (v := nI 1) hx hb hr (fun t9 ht9 hW9 => ⟨⟨nI 1, ((nn, pp, M, S), fo), rfl, Or.inr ⟨rfl, hbad, rfl⟩, by rw [ht9]; exact hP, va_K.moved hW9.alike hK, hD⟩, hS.F ht9⟩) hS.2.2 d_L_begin_14
  · replace hP : va_P (dC, dI) vwCl [(o0, .inl (cO, 1, .inr (.inl fo))), (h0, .inr (0, [.ref h1, .ref h2, .int (nI nn), .int (nI pp)])), (h1, .inl (cA, 512, .inl M)), (h2, .inl (cB, 512, .inl S))] H := hP
    replace hD : va_D A [(o0, .inl (cO, 1, .inr (.inl fo))), (h0, .inr (0, [.ref h1, .ref h2, .int (nI nn), .int (nI pp)])), (h1, .inl (cA, 512, .inl M)), (h2, .inl (cB, 512, .inl S))] := hD
    refine lv_i2l (v := r_9.toInt64) hx hb d_L_begin_7 rfl ?_
    refine va_last hx hb hK hP hD hS 0 2 rfl rfl (vp_in_nI (by omega) (by decide)) d_L_begin_8 (fun H locs hP hD hS => ?_)
    rw [nI_clamp (by omega)] at hP hD
    replace hP : va_P (dC, dI) vwCl [(o0, .inl (cO, 1, .inr (.inl (vp_updL fo 0 r_9.toInt64)))), (h0, .inr (0, [.ref h1, .ref h2, .int (nI nn), .int (nI pp)])), (h1, .inl (cA, 512, .inl M)), (h2, .inl (cB, 512, .inl S))] H := hP
    replace hD : va_D A [(o0, .inl (cO, 1, .inr (.inl (vp_updL fo 0 r_9.toInt64)))), (h0, .inr (0, [.ref h1, .ref h2, .int (nI nn), .int (nI pp)])), (h1, .inl (cA, 512, .inl M)), (h2, .inl (cB, 512, .inl S))] := hD
    refine lv_goto (tgt := 15) hx hb d_L_begin_9 (by decide) ?_
    refine lv_iconst (v := nI 0) hx hb d_L_begin_15 (by decide) ?_
    replace hP := hP.sub (ws' := [(h0, .inr (0, [.ref h1, .ref h2, .int (nI nn), .int (nI pp)])), (h1, .inl (cA, 512, .inl M)), (h2, .inl (cB, 512, .inl S)), (o0, .inl (cO, 1, .inr (.inl (vp_updL fo 0 r_9.toInt64))))]) [1, 2, 3, 0] rfl
    replace hD := hD.sub (ws' := [(h0, .inr (0, [.ref h1, .ref h2, .int (nI nn), .int (nI pp)])), (h1, .inl (cA, 512, .inl M)), (h2, .inl (cB, 512, .inl S)), (o0, .inl (cO, 1, .inr (.inl (vp_updL fo 0 r_9.toInt64))))]) [1, 2, 3, 0] (by decide) rfl
    refine W.widen (k := 1) (n := 6) (by decide) (by decide) ?_
    exact W.iret (v := nI 0) hx hb hr (fun t9 ht9 hW9 => ⟨⟨nI 0, ((nn, pp, M, S), vp_updL fo 0 r_9.toInt64), rfl, Or.inl ⟨rfl, r_9, rfl, rfl, hw⟩, by rw [ht9]; exact hP, va_K.moved hW9.alike hK, hD⟩, hS.F ht9⟩) hS.2.2 d_L_begin_16
set_option maxHeartbeats 4000000 in
set_option maxRecDepth 100000 in
/-- the law's own size -/
theorem cL_size (l : Launch) (hlt : l.stackTraces = false) (dC : Nat → ClassId) (dI : Nat → Nat → Nat) (h0 h1 h2 o0 : Nat) (cA cB cO : ClassId) (sz : Nat) (M S : Nat → Int32) (nn pp : Nat) (fo : Nat → Int64) (g0 : zCI nn pp M S) (x : Int32) : Met l y_L_size ws_L_size ({ frames := 8, cells := 1, slots := 6, locals := 132 }) (va_Pc [.ref h0, .int x, .ref o0] (cx_P (dC, dI) vwCl (wXO h0 h1 h2 o0 cA cB cO M S (nI nn) (nI pp) fo) (tXO cA cB cO) sz)) (va_Qi (S := (Nat × Nat × (Nat → Int32) × (Nat → Int32)) × (Nat → Int64)) (fun (r : Int32) (u : (Nat × Nat × (Nat → Int32) × (Nat → Int32)) × (Nat → Int64)) => (r = nI 0 ∧ ∃ rr : Int32, u.2 = vp_updL fo 0 rr.toInt64 ∧ u.1 = (nn, pp, M, S) ∧ ∃ k, k < nn ∧ x = nI k ∧ rr = nI (zn (zm M) nn (k + 1) - zb (zm M) k)) ∨ (r = nI 1 ∧ (¬ ∃ k, k < nn ∧ x = nI k) ∧ u = ((nn, pp, M, S), fo))) (fun u t => cc_B (dC, dI) vwCl (tXO cA cB cO) (va_A (wXO h0 h1 h2 o0 cA cB cO M S (nI nn) (nI pp) fo) sz) ((fun u : (Nat × Nat × (Nat → Int32) × (Nat → Int32)) × (Nat → Int64) => (wXO h0 h1 h2 o0 cA cB cO u.1.2.2.1 u.1.2.2.2 (nI u.1.1) (nI u.1.2.1) u.2)) u) t) (va_A (wXO h0 h1 h2 o0 cA cB cO M S (nI nn) (nI pp) fo) sz)) 1 6 (va_A (wXO h0 h1 h2 o0 cA cB cO M S (nI nn) (nI pp) fo) sz) := by
  refine va_MetW (cc := c_L_size) (maxL := 4) (ret := (some .int)) (hh := [(0, 9, 12, 18)]) (by decide) rfl ?_
  intro p e s m args below meth c s₁ B hml hv
  obtain ⟨rfl, ⟨hsz, hP, hK, hD0⟩, hZ⟩ := hv
  have hx := B.exec
  have hb := B.bytes
  have hr := B.returns
  have hts : ∀ w ∈ zAll, w.before _ s = true := fun w h => atoms_spec (ws := ws_L_size) B.pre w (List.mem_cons_of_mem _ h)
  have htab : c.exceptionTable.toList = tableOf [(0, 9, 12, 18)] := vx_table (x := y_L_size) B (atoms_spec (ws := ws_L_size) B.pre _ List.mem_cons_self)
  have hown : s.vm.findClass RL = some m.cls := findClass_of_methodNamed B.named
  have hlocks := B.notSynchronized
  subst hsz
  have hD := hD0.self (sz := s.heap.size)
  generalize hAe : va_A (wXO h0 h1 h2 o0 cA cB cO M S (nI nn) (nI pp) fo) s.heap.size = A at hD hZ ⊢
  have hA : ∀ q : Nat, s.heap.size ≤ q → A q := fun q h => by rw [← hAe]; exact Or.inr h
  have hS : va_S A s.heap s.heap [] := va_S.rf
  replace hP : va_P (dC, dI) vwCl [(h0, .inr (0, [.ref h1, .ref h2, .int (nI nn), .int (nI pp)])), (h1, .inl (cA, 512, .inl M)), (h2, .inl (cB, 512, .inl S)), (o0, .inl (cO, 1, .inr (.inl fo)))] s.heap := hP
  replace hD : va_D A [(h0, .inr (0, [.ref h1, .ref h2, .int (nI nn), .int (nI pp)])), (h1, .inl (cA, 512, .inl M)), (h2, .inl (cB, 512, .inl S)), (o0, .inl (cO, 1, .inr (.inl fo)))] := hD
  have hl := lv_entry ([.ref h0, .int x, .ref o0]) (n := 4) (Nat.le_of_ble_eq_true rfl)
  rw [lg_entry_eq]
  generalize (lg_sl ([.ref h0, .int x, .ref o0]) ++ List.replicate (4 - (lg_sl ([.ref h0, .int x, .ref o0])).length) Slot.unset).toArray = ls at hl ⊢
  replace hl : lv_has ls 4 [(0, .ref h0), (1, .int x), (2, .ref o0)] := hl
  refine lv_aload_n hx hb d_L_size_0 rfl (lv_at hl 2 rfl) ?_
  refine lv_iconst (v := nI 0) hx hb d_L_size_1 (by decide) ?_
  refine lv_aload_n hx hb d_L_size_2 rfl (lv_at hl 0 rfl) ?_
  refine lv_iload_n hx hb d_L_size_3 rfl (lv_at hl 1 rfl) ?_
  refine cx_Vi (wc := [(h0, .inr (0, [.ref h1, .ref h2, .int (nI nn), .int (nI pp)])), (h1, .inl (cA, 512, .inl M)), (h2, .inl (cB, 512, .inl S))]) (wr := [(o0, .inl (cO, 1, .inr (.inl fo)))]) (tys' := [(cA, .int), (cB, .int)]) ⟨hx, hb, hml, hown, hts⟩ hP hD hK hS hA hZ [0, 1, 2] [3] [0, 1] rfl rfl rfl (by decide) (by decide) (by decide) rfl (c_size l hlt dC dI h0 h1 h2 cA cB _ M S nn pp g0 x) (cwV 1 hts g_L_30 rfl rfl rfl (by decide +kernel) ⟨Nat.le_of_ble_eq_true rfl, Nat.le_of_ble_eq_true rfl⟩) 0 0 rfl rfl rfl rfl hl.1 rfl (Nat.le_of_ble_eq_true rfl) d_L_size_4 ⟨Nat.le_of_ble_eq_true rfl, Nat.le_of_ble_eq_true rfl⟩ (fun ce q9 H locs hbad hP hD hS y1 y2 y3 => ?_) (fun r_9 u H locs hw hP hD hS => ?_)
  · replace hP : va_P (dC, dI) vwCl [(o0, .inl (cO, 1, .inr (.inl fo))), (h0, .inr (0, [.ref h1, .ref h2, .int (nI nn), .int (nI pp)])), (h1, .inl (cA, 512, .inl M)), (h2, .inl (cB, 512, .inl S))] H := hP
    replace hD : va_D A [(o0, .inl (cO, 1, .inr (.inl fo))), (h0, .inr (0, [.ref h1, .ref h2, .int (nI nn), .int (nI pp)])), (h1, .inl (cA, 512, .inl M)), (h2, .inl (cB, 512, .inl S))] := hD
    refine vx_catch (pc := 4) hown [] ⟨0, 9, 12, 18⟩ [] htab (fun z h => absurd h List.not_mem_nil) (by decide) (by decide) (hts _ wl_L_18) (va_Nw.use (zBad_on _ wzb_IOOBE) (hZ.2.1 _ wzb_IOOBE)) y1 y2 y3 ?_
    refine W.eq (g2 := F0 m 12 ls [.ref q9]) rfl ?_
    refine lv_astore_n (lv' := [(3, .ref q9), (0, .ref h0), (1, .int x), (2, .ref o0)]) hx hb d_L_size_12 rfl hl (by decide) rfl (fun ls hl => ?_)
    refine lv_iconst (v := nI 1) hx hb d_L_size_13 (by decide) ?_
    replace hP := hP.sub (ws' := [(h0, .inr (0, [.ref h1, .ref h2, .int (nI nn), .int (nI pp)])), (h1, .inl (cA, 512, .inl M)), (h2, .inl (cB, 512, .inl S)), (o0, .inl (cO, 1, .inr (.inl fo)))]) [1, 2, 3, 0] rfl
    replace hD := hD.sub (ws' := [(h0, .inr (0, [.ref h1, .ref h2, .int (nI nn), .int (nI pp)])), (h1, .inl (cA, 512, .inl M)), (h2, .inl (cB, 512, .inl S)), (o0, .inl (cO, 1, .inr (.inl fo)))]) [1, 2, 3, 0] (by decide) rfl
    refine W.widen (k := 1) (n := 6) (by decide) (by decide) ?_
    exact W.iret (v := nI 1) hx hb hr (fun t9 ht9 hW9 => ⟨⟨nI 1, ((nn, pp, M, S), fo), rfl, Or.inr ⟨rfl, hbad, rfl⟩, by rw [ht9]; exact hP, va_K.moved hW9.alike hK, hD⟩, hS.F ht9⟩) hS.2.2 d_L_size_14
  · replace hP : va_P (dC, dI) vwCl [(o0, .inl (cO, 1, .inr (.inl fo))), (h0, .inr (0, [.ref h1, .ref h2, .int (nI nn), .int (nI pp)])), (h1, .inl (cA, 512, .inl M)), (h2, .inl (cB, 512, .inl S))] H := hP
    replace hD : va_D A [(o0, .inl (cO, 1, .inr (.inl fo))), (h0, .inr (0, [.ref h1, .ref h2, .int (nI nn), .int (nI pp)])), (h1, .inl (cA, 512, .inl M)), (h2, .inl (cB, 512, .inl S))] := hD
    refine lv_i2l (v := r_9.toInt64) hx hb d_L_size_7 rfl ?_
    refine va_last hx hb hK hP hD hS 0 2 rfl rfl (vp_in_nI (by omega) (by decide)) d_L_size_8 (fun H locs hP hD hS => ?_)
    rw [nI_clamp (by omega)] at hP hD
    replace hP : va_P (dC, dI) vwCl [(o0, .inl (cO, 1, .inr (.inl (vp_updL fo 0 r_9.toInt64)))), (h0, .inr (0, [.ref h1, .ref h2, .int (nI nn), .int (nI pp)])), (h1, .inl (cA, 512, .inl M)), (h2, .inl (cB, 512, .inl S))] H := hP
    replace hD : va_D A [(o0, .inl (cO, 1, .inr (.inl (vp_updL fo 0 r_9.toInt64)))), (h0, .inr (0, [.ref h1, .ref h2, .int (nI nn), .int (nI pp)])), (h1, .inl (cA, 512, .inl M)), (h2, .inl (cB, 512, .inl S))] := hD
    refine lv_goto (tgt := 15) hx hb d_L_size_9 (by decide) ?_
    refine lv_iconst (v := nI 0) hx hb d_L_size_15 (by decide) ?_
    replace hP := hP.sub (ws' := [(h0, .inr (0, [.ref h1, .ref h2, .int (nI nn), .int (nI pp)])), (h1, .inl (cA, 512, .inl M)), (h2, .inl (cB, 512, .inl S)), (o0, .inl (cO, 1, .inr (.inl (vp_updL fo 0 r_9.toInt64))))]) [1, 2, 3, 0] rfl
    replace hD := hD.sub (ws' := [(h0, .inr (0, [.ref h1, .ref h2, .int (nI nn), .int (nI pp)])), (h1, .inl (cA, 512, .inl M)), (h2, .inl (cB, 512, .inl S)), (o0, .inl (cO, 1, .inr (.inl (vp_updL fo 0 r_9.toInt64))))]) [1, 2, 3, 0] (by decide) rfl
    refine W.widen (k := 1) (n := 6) (by decide) (by decide) ?_
    exact W.iret (v := nI 0) hx hb hr (fun t9 ht9 hW9 => ⟨⟨nI 0, ((nn, pp, M, S), vp_updL fo 0 r_9.toInt64), rfl, Or.inl ⟨rfl, r_9, rfl, rfl, hw⟩, by rw [ht9]; exact hP, va_K.moved hW9.alike hK, hD⟩, hS.F ht9⟩) hS.2.2 d_L_size_16
set_option maxHeartbeats 4000000 in
set_option maxRecDepth 100000 in
/-- the law's own start -/
theorem cL_start (l : Launch) (hlt : l.stackTraces = false) (dC : Nat → ClassId) (dI : Nat → Nat → Nat) (h0 h1 h2 o0 : Nat) (cA cB cO : ClassId) (sz : Nat) (M S : Nat → Int32) (nn pp : Nat) (fo : Nat → Int64) (g0 : zCI nn pp M S) (x : Int32) : Met l y_L_start ws_L_start ({ frames := 8, cells := 1, slots := 6, locals := 132 }) (va_Pc [.ref h0, .int x, .ref o0] (cx_P (dC, dI) vwCl (wXO h0 h1 h2 o0 cA cB cO M S (nI nn) (nI pp) fo) (tXO cA cB cO) sz)) (va_Qi (S := (Nat × Nat × (Nat → Int32) × (Nat → Int32)) × (Nat → Int64)) (fun (r : Int32) (u : (Nat × Nat × (Nat → Int32) × (Nat → Int32)) × (Nat → Int64)) => (r = nI 0 ∧ ∃ rr : Int32, u.2 = vp_updL fo 0 rr.toInt64 ∧ u.1 = (nn, pp, M, S) ∧ ∃ k, k < (nn + 31) / 32 ∧ x = nI k ∧ rr = nI (zb (zm M) (32 * k))) ∨ (r = nI 1 ∧ (¬ ∃ k, k < (nn + 31) / 32 ∧ x = nI k) ∧ u = ((nn, pp, M, S), fo))) (fun u t => cc_B (dC, dI) vwCl (tXO cA cB cO) (va_A (wXO h0 h1 h2 o0 cA cB cO M S (nI nn) (nI pp) fo) sz) ((fun u : (Nat × Nat × (Nat → Int32) × (Nat → Int32)) × (Nat → Int64) => (wXO h0 h1 h2 o0 cA cB cO u.1.2.2.1 u.1.2.2.2 (nI u.1.1) (nI u.1.2.1) u.2)) u) t) (va_A (wXO h0 h1 h2 o0 cA cB cO M S (nI nn) (nI pp) fo) sz)) 1 6 (va_A (wXO h0 h1 h2 o0 cA cB cO M S (nI nn) (nI pp) fo) sz) := by
  refine va_MetW (cc := c_L_start) (maxL := 4) (ret := (some .int)) (hh := [(0, 9, 12, 18)]) (by decide) rfl ?_
  intro p e s m args below meth c s₁ B hml hv
  obtain ⟨rfl, ⟨hsz, hP, hK, hD0⟩, hZ⟩ := hv
  have hx := B.exec
  have hb := B.bytes
  have hr := B.returns
  have hts : ∀ w ∈ zAll, w.before _ s = true := fun w h => atoms_spec (ws := ws_L_start) B.pre w (List.mem_cons_of_mem _ h)
  have htab : c.exceptionTable.toList = tableOf [(0, 9, 12, 18)] := vx_table (x := y_L_start) B (atoms_spec (ws := ws_L_start) B.pre _ List.mem_cons_self)
  have hown : s.vm.findClass RL = some m.cls := findClass_of_methodNamed B.named
  have hlocks := B.notSynchronized
  subst hsz
  have hD := hD0.self (sz := s.heap.size)
  generalize hAe : va_A (wXO h0 h1 h2 o0 cA cB cO M S (nI nn) (nI pp) fo) s.heap.size = A at hD hZ ⊢
  have hA : ∀ q : Nat, s.heap.size ≤ q → A q := fun q h => by rw [← hAe]; exact Or.inr h
  have hS : va_S A s.heap s.heap [] := va_S.rf
  replace hP : va_P (dC, dI) vwCl [(h0, .inr (0, [.ref h1, .ref h2, .int (nI nn), .int (nI pp)])), (h1, .inl (cA, 512, .inl M)), (h2, .inl (cB, 512, .inl S)), (o0, .inl (cO, 1, .inr (.inl fo)))] s.heap := hP
  replace hD : va_D A [(h0, .inr (0, [.ref h1, .ref h2, .int (nI nn), .int (nI pp)])), (h1, .inl (cA, 512, .inl M)), (h2, .inl (cB, 512, .inl S)), (o0, .inl (cO, 1, .inr (.inl fo)))] := hD
  have hl := lv_entry ([.ref h0, .int x, .ref o0]) (n := 4) (Nat.le_of_ble_eq_true rfl)
  rw [lg_entry_eq]
  generalize (lg_sl ([.ref h0, .int x, .ref o0]) ++ List.replicate (4 - (lg_sl ([.ref h0, .int x, .ref o0])).length) Slot.unset).toArray = ls at hl ⊢
  replace hl : lv_has ls 4 [(0, .ref h0), (1, .int x), (2, .ref o0)] := hl
  refine lv_aload_n hx hb d_L_start_0 rfl (lv_at hl 2 rfl) ?_
  refine lv_iconst (v := nI 0) hx hb d_L_start_1 (by decide) ?_
  refine lv_aload_n hx hb d_L_start_2 rfl (lv_at hl 0 rfl) ?_
  refine lv_iload_n hx hb d_L_start_3 rfl (lv_at hl 1 rfl) ?_
  refine cx_Vi (wc := [(h0, .inr (0, [.ref h1, .ref h2, .int (nI nn), .int (nI pp)])), (h1, .inl (cA, 512, .inl M)), (h2, .inl (cB, 512, .inl S))]) (wr := [(o0, .inl (cO, 1, .inr (.inl fo)))]) (tys' := [(cA, .int), (cB, .int)]) ⟨hx, hb, hml, hown, hts⟩ hP hD hK hS hA hZ [0, 1, 2] [3] [0, 1] rfl rfl rfl (by decide) (by decide) (by decide) rfl (c_start l hlt dC dI h0 h1 h2 cA cB _ M S nn pp g0 x) (cwV 1 hts g_L_33 rfl rfl rfl (by decide +kernel) ⟨Nat.le_of_ble_eq_true rfl, Nat.le_of_ble_eq_true rfl⟩) 0 0 rfl rfl rfl rfl hl.1 rfl (Nat.le_of_ble_eq_true rfl) d_L_start_4 ⟨Nat.le_of_ble_eq_true rfl, Nat.le_of_ble_eq_true rfl⟩ (fun ce q9 H locs hbad hP hD hS y1 y2 y3 => ?_) (fun r_9 u H locs hw hP hD hS => ?_)
  · replace hP : va_P (dC, dI) vwCl [(o0, .inl (cO, 1, .inr (.inl fo))), (h0, .inr (0, [.ref h1, .ref h2, .int (nI nn), .int (nI pp)])), (h1, .inl (cA, 512, .inl M)), (h2, .inl (cB, 512, .inl S))] H := hP
    replace hD : va_D A [(o0, .inl (cO, 1, .inr (.inl fo))), (h0, .inr (0, [.ref h1, .ref h2, .int (nI nn), .int (nI pp)])), (h1, .inl (cA, 512, .inl M)), (h2, .inl (cB, 512, .inl S))] := hD
    refine vx_catch (pc := 4) hown [] ⟨0, 9, 12, 18⟩ [] htab (fun z h => absurd h List.not_mem_nil) (by decide) (by decide) (hts _ wl_L_18) (va_Nw.use (zBad_on _ wzb_IOOBE) (hZ.2.1 _ wzb_IOOBE)) y1 y2 y3 ?_
    refine W.eq (g2 := F0 m 12 ls [.ref q9]) rfl ?_
    refine lv_astore_n (lv' := [(3, .ref q9), (0, .ref h0), (1, .int x), (2, .ref o0)]) hx hb d_L_start_12 rfl hl (by decide) rfl (fun ls hl => ?_)
    refine lv_iconst (v := nI 1) hx hb d_L_start_13 (by decide) ?_
    replace hP := hP.sub (ws' := [(h0, .inr (0, [.ref h1, .ref h2, .int (nI nn), .int (nI pp)])), (h1, .inl (cA, 512, .inl M)), (h2, .inl (cB, 512, .inl S)), (o0, .inl (cO, 1, .inr (.inl fo)))]) [1, 2, 3, 0] rfl
    replace hD := hD.sub (ws' := [(h0, .inr (0, [.ref h1, .ref h2, .int (nI nn), .int (nI pp)])), (h1, .inl (cA, 512, .inl M)), (h2, .inl (cB, 512, .inl S)), (o0, .inl (cO, 1, .inr (.inl fo)))]) [1, 2, 3, 0] (by decide) rfl
    refine W.widen (k := 1) (n := 6) (by decide) (by decide) ?_
    exact W.iret (v := nI 1) hx hb hr (fun t9 ht9 hW9 => ⟨⟨nI 1, ((nn, pp, M, S), fo), rfl, Or.inr ⟨rfl, hbad, rfl⟩, by rw [ht9]; exact hP, va_K.moved hW9.alike hK, hD⟩, hS.F ht9⟩) hS.2.2 d_L_start_14
  · replace hP : va_P (dC, dI) vwCl [(o0, .inl (cO, 1, .inr (.inl fo))), (h0, .inr (0, [.ref h1, .ref h2, .int (nI nn), .int (nI pp)])), (h1, .inl (cA, 512, .inl M)), (h2, .inl (cB, 512, .inl S))] H := hP
    replace hD : va_D A [(o0, .inl (cO, 1, .inr (.inl fo))), (h0, .inr (0, [.ref h1, .ref h2, .int (nI nn), .int (nI pp)])), (h1, .inl (cA, 512, .inl M)), (h2, .inl (cB, 512, .inl S))] := hD
    refine lv_i2l (v := r_9.toInt64) hx hb d_L_start_7 rfl ?_
    refine va_last hx hb hK hP hD hS 0 2 rfl rfl (vp_in_nI (by omega) (by decide)) d_L_start_8 (fun H locs hP hD hS => ?_)
    rw [nI_clamp (by omega)] at hP hD
    replace hP : va_P (dC, dI) vwCl [(o0, .inl (cO, 1, .inr (.inl (vp_updL fo 0 r_9.toInt64)))), (h0, .inr (0, [.ref h1, .ref h2, .int (nI nn), .int (nI pp)])), (h1, .inl (cA, 512, .inl M)), (h2, .inl (cB, 512, .inl S))] H := hP
    replace hD : va_D A [(o0, .inl (cO, 1, .inr (.inl (vp_updL fo 0 r_9.toInt64)))), (h0, .inr (0, [.ref h1, .ref h2, .int (nI nn), .int (nI pp)])), (h1, .inl (cA, 512, .inl M)), (h2, .inl (cB, 512, .inl S))] := hD
    refine lv_goto (tgt := 15) hx hb d_L_start_9 (by decide) ?_
    refine lv_iconst (v := nI 0) hx hb d_L_start_15 (by decide) ?_
    replace hP := hP.sub (ws' := [(h0, .inr (0, [.ref h1, .ref h2, .int (nI nn), .int (nI pp)])), (h1, .inl (cA, 512, .inl M)), (h2, .inl (cB, 512, .inl S)), (o0, .inl (cO, 1, .inr (.inl (vp_updL fo 0 r_9.toInt64))))]) [1, 2, 3, 0] rfl
    replace hD := hD.sub (ws' := [(h0, .inr (0, [.ref h1, .ref h2, .int (nI nn), .int (nI pp)])), (h1, .inl (cA, 512, .inl M)), (h2, .inl (cB, 512, .inl S)), (o0, .inl (cO, 1, .inr (.inl (vp_updL fo 0 r_9.toInt64))))]) [1, 2, 3, 0] (by decide) rfl
    refine W.widen (k := 1) (n := 6) (by decide) (by decide) ?_
    exact W.iret (v := nI 0) hx hb hr (fun t9 ht9 hW9 => ⟨⟨nI 0, ((nn, pp, M, S), vp_updL fo 0 r_9.toInt64), rfl, Or.inl ⟨rfl, r_9, rfl, rfl, hw⟩, by rw [ht9]; exact hP, va_K.moved hW9.alike hK, hD⟩, hS.F ht9⟩) hS.2.2 d_L_start_16
set_option maxHeartbeats 4000000 in
set_option maxRecDepth 100000 in
/-- the law's own begins -/
theorem cL_begins (l : Launch) (hlt : l.stackTraces = false) (dC : Nat → ClassId) (dI : Nat → Nat → Nat) (h0 h1 h2 o0 : Nat) (cA cB cO : ClassId) (sz : Nat) (M S : Nat → Int32) (nn pp : Nat) (fo : Nat → Int64) (g0 : zCI nn pp M S) (x : Int32) : Met l y_L_begins ws_L_begins ({ frames := 8, cells := 1, slots := 6, locals := 132 }) (va_Pc [.ref h0, .int x, .ref o0] (cx_P (dC, dI) vwCl (wXO h0 h1 h2 o0 cA cB cO M S (nI nn) (nI pp) fo) (tXO cA cB cO) sz)) (va_Qi (S := (Nat × Nat × (Nat → Int32) × (Nat → Int32)) × (Nat → Int64)) (fun (r : Int32) (u : (Nat × Nat × (Nat → Int32) × (Nat → Int32)) × (Nat → Int64)) => (r = nI 0 ∧ ∃ rr : Int32, u.2 = vp_updL fo 0 rr.toInt64 ∧ u.1 = (nn, pp, M, S) ∧ ∃ k, k < (nn + 31) / 32 ∧ x = nI k ∧ rr = nI (zc (bt (M k)) 32)) ∨ (r = nI 1 ∧ (¬ ∃ k, k < (nn + 31) / 32 ∧ x = nI k) ∧ u = ((nn, pp, M, S), fo))) (fun u t => cc_B (dC, dI) vwCl (tXO cA cB cO) (va_A (wXO h0 h1 h2 o0 cA cB cO M S (nI nn) (nI pp) fo) sz) ((fun u : (Nat × Nat × (Nat → Int32) × (Nat → Int32)) × (Nat → Int64) => (wXO h0 h1 h2 o0 cA cB cO u.1.2.2.1 u.1.2.2.2 (nI u.1.1) (nI u.1.2.1) u.2)) u) t) (va_A (wXO h0 h1 h2 o0 cA cB cO M S (nI nn) (nI pp) fo) sz)) 1 6 (va_A (wXO h0 h1 h2 o0 cA cB cO M S (nI nn) (nI pp) fo) sz) := by
  refine va_MetW (cc := c_L_begins) (maxL := 4) (ret := (some .int)) (hh := [(0, 9, 12, 18)]) (by decide) rfl ?_
  intro p e s m args below meth c s₁ B hml hv
  obtain ⟨rfl, ⟨hsz, hP, hK, hD0⟩, hZ⟩ := hv
  have hx := B.exec
  have hb := B.bytes
  have hr := B.returns
  have hts : ∀ w ∈ zAll, w.before _ s = true := fun w h => atoms_spec (ws := ws_L_begins) B.pre w (List.mem_cons_of_mem _ h)
  have htab : c.exceptionTable.toList = tableOf [(0, 9, 12, 18)] := vx_table (x := y_L_begins) B (atoms_spec (ws := ws_L_begins) B.pre _ List.mem_cons_self)
  have hown : s.vm.findClass RL = some m.cls := findClass_of_methodNamed B.named
  have hlocks := B.notSynchronized
  subst hsz
  have hD := hD0.self (sz := s.heap.size)
  generalize hAe : va_A (wXO h0 h1 h2 o0 cA cB cO M S (nI nn) (nI pp) fo) s.heap.size = A at hD hZ ⊢
  have hA : ∀ q : Nat, s.heap.size ≤ q → A q := fun q h => by rw [← hAe]; exact Or.inr h
  have hS : va_S A s.heap s.heap [] := va_S.rf
  replace hP : va_P (dC, dI) vwCl [(h0, .inr (0, [.ref h1, .ref h2, .int (nI nn), .int (nI pp)])), (h1, .inl (cA, 512, .inl M)), (h2, .inl (cB, 512, .inl S)), (o0, .inl (cO, 1, .inr (.inl fo)))] s.heap := hP
  replace hD : va_D A [(h0, .inr (0, [.ref h1, .ref h2, .int (nI nn), .int (nI pp)])), (h1, .inl (cA, 512, .inl M)), (h2, .inl (cB, 512, .inl S)), (o0, .inl (cO, 1, .inr (.inl fo)))] := hD
  have hl := lv_entry ([.ref h0, .int x, .ref o0]) (n := 4) (Nat.le_of_ble_eq_true rfl)
  rw [lg_entry_eq]
  generalize (lg_sl ([.ref h0, .int x, .ref o0]) ++ List.replicate (4 - (lg_sl ([.ref h0, .int x, .ref o0])).length) Slot.unset).toArray = ls at hl ⊢
  replace hl : lv_has ls 4 [(0, .ref h0), (1, .int x), (2, .ref o0)] := hl
  refine lv_aload_n hx hb d_L_begins_0 rfl (lv_at hl 2 rfl) ?_
  refine lv_iconst (v := nI 0) hx hb d_L_begins_1 (by decide) ?_
  refine lv_aload_n hx hb d_L_begins_2 rfl (lv_at hl 0 rfl) ?_
  refine lv_iload_n hx hb d_L_begins_3 rfl (lv_at hl 1 rfl) ?_
  refine cx_Vi (wc := [(h0, .inr (0, [.ref h1, .ref h2, .int (nI nn), .int (nI pp)])), (h1, .inl (cA, 512, .inl M)), (h2, .inl (cB, 512, .inl S))]) (wr := [(o0, .inl (cO, 1, .inr (.inl fo)))]) (tys' := [(cA, .int), (cB, .int)]) ⟨hx, hb, hml, hown, hts⟩ hP hD hK hS hA hZ [0, 1, 2] [3] [0, 1] rfl rfl rfl (by decide) (by decide) (by decide) rfl (c_begins l hlt dC dI h0 h1 h2 cA cB _ M S nn pp g0 x) (cwV 1 hts g_L_36 rfl rfl rfl (by decide +kernel) ⟨Nat.le_of_ble_eq_true rfl, Nat.le_of_ble_eq_true rfl⟩) 0 0 rfl rfl rfl rfl hl.1 rfl (Nat.le_of_ble_eq_true rfl) d_L_begins_4 ⟨Nat.le_of_ble_eq_true rfl, Nat.le_of_ble_eq_true rfl⟩ (fun ce q9 H locs hbad hP hD hS y1 y2 y3 => ?_) (fun r_9 u H locs hw hP hD hS => ?_)
  · replace hP : va_P (dC, dI) vwCl [(o0, .inl (cO, 1, .inr (.inl fo))), (h0, .inr (0, [.ref h1, .ref h2, .int (nI nn), .int (nI pp)])), (h1, .inl (cA, 512, .inl M)), (h2, .inl (cB, 512, .inl S))] H := hP
    replace hD : va_D A [(o0, .inl (cO, 1, .inr (.inl fo))), (h0, .inr (0, [.ref h1, .ref h2, .int (nI nn), .int (nI pp)])), (h1, .inl (cA, 512, .inl M)), (h2, .inl (cB, 512, .inl S))] := hD
    refine vx_catch (pc := 4) hown [] ⟨0, 9, 12, 18⟩ [] htab (fun z h => absurd h List.not_mem_nil) (by decide) (by decide) (hts _ wl_L_18) (va_Nw.use (zBad_on _ wzb_IOOBE) (hZ.2.1 _ wzb_IOOBE)) y1 y2 y3 ?_
    refine W.eq (g2 := F0 m 12 ls [.ref q9]) rfl ?_
    refine lv_astore_n (lv' := [(3, .ref q9), (0, .ref h0), (1, .int x), (2, .ref o0)]) hx hb d_L_begins_12 rfl hl (by decide) rfl (fun ls hl => ?_)
    refine lv_iconst (v := nI 1) hx hb d_L_begins_13 (by decide) ?_
    replace hP := hP.sub (ws' := [(h0, .inr (0, [.ref h1, .ref h2, .int (nI nn), .int (nI pp)])), (h1, .inl (cA, 512, .inl M)), (h2, .inl (cB, 512, .inl S)), (o0, .inl (cO, 1, .inr (.inl fo)))]) [1, 2, 3, 0] rfl
    replace hD := hD.sub (ws' := [(h0, .inr (0, [.ref h1, .ref h2, .int (nI nn), .int (nI pp)])), (h1, .inl (cA, 512, .inl M)), (h2, .inl (cB, 512, .inl S)), (o0, .inl (cO, 1, .inr (.inl fo)))]) [1, 2, 3, 0] (by decide) rfl
    refine W.widen (k := 1) (n := 6) (by decide) (by decide) ?_
    exact W.iret (v := nI 1) hx hb hr (fun t9 ht9 hW9 => ⟨⟨nI 1, ((nn, pp, M, S), fo), rfl, Or.inr ⟨rfl, hbad, rfl⟩, by rw [ht9]; exact hP, va_K.moved hW9.alike hK, hD⟩, hS.F ht9⟩) hS.2.2 d_L_begins_14
  · replace hP : va_P (dC, dI) vwCl [(o0, .inl (cO, 1, .inr (.inl fo))), (h0, .inr (0, [.ref h1, .ref h2, .int (nI nn), .int (nI pp)])), (h1, .inl (cA, 512, .inl M)), (h2, .inl (cB, 512, .inl S))] H := hP
    replace hD : va_D A [(o0, .inl (cO, 1, .inr (.inl fo))), (h0, .inr (0, [.ref h1, .ref h2, .int (nI nn), .int (nI pp)])), (h1, .inl (cA, 512, .inl M)), (h2, .inl (cB, 512, .inl S))] := hD
    refine lv_i2l (v := r_9.toInt64) hx hb d_L_begins_7 rfl ?_
    refine va_last hx hb hK hP hD hS 0 2 rfl rfl (vp_in_nI (by omega) (by decide)) d_L_begins_8 (fun H locs hP hD hS => ?_)
    rw [nI_clamp (by omega)] at hP hD
    replace hP : va_P (dC, dI) vwCl [(o0, .inl (cO, 1, .inr (.inl (vp_updL fo 0 r_9.toInt64)))), (h0, .inr (0, [.ref h1, .ref h2, .int (nI nn), .int (nI pp)])), (h1, .inl (cA, 512, .inl M)), (h2, .inl (cB, 512, .inl S))] H := hP
    replace hD : va_D A [(o0, .inl (cO, 1, .inr (.inl (vp_updL fo 0 r_9.toInt64)))), (h0, .inr (0, [.ref h1, .ref h2, .int (nI nn), .int (nI pp)])), (h1, .inl (cA, 512, .inl M)), (h2, .inl (cB, 512, .inl S))] := hD
    refine lv_goto (tgt := 15) hx hb d_L_begins_9 (by decide) ?_
    refine lv_iconst (v := nI 0) hx hb d_L_begins_15 (by decide) ?_
    replace hP := hP.sub (ws' := [(h0, .inr (0, [.ref h1, .ref h2, .int (nI nn), .int (nI pp)])), (h1, .inl (cA, 512, .inl M)), (h2, .inl (cB, 512, .inl S)), (o0, .inl (cO, 1, .inr (.inl (vp_updL fo 0 r_9.toInt64))))]) [1, 2, 3, 0] rfl
    replace hD := hD.sub (ws' := [(h0, .inr (0, [.ref h1, .ref h2, .int (nI nn), .int (nI pp)])), (h1, .inl (cA, 512, .inl M)), (h2, .inl (cB, 512, .inl S)), (o0, .inl (cO, 1, .inr (.inl (vp_updL fo 0 r_9.toInt64))))]) [1, 2, 3, 0] (by decide) rfl
    refine W.widen (k := 1) (n := 6) (by decide) (by decide) ?_
    exact W.iret (v := nI 0) hx hb hr (fun t9 ht9 hW9 => ⟨⟨nI 0, ((nn, pp, M, S), vp_updL fo 0 r_9.toInt64), rfl, Or.inl ⟨rfl, r_9, rfl, rfl, hw⟩, by rw [ht9]; exact hP, va_K.moved hW9.alike hK, hD⟩, hS.F ht9⟩) hS.2.2 d_L_begins_16
set_option maxHeartbeats 4000000 in
set_option maxRecDepth 100000 in
/-- the law's own count -/
theorem cL_count (l : Launch) (hlt : l.stackTraces = false) (dC : Nat → ClassId) (dI : Nat → Nat → Nat) (h0 h1 h2 o0 : Nat) (cA cB cO : ClassId) (sz : Nat) (M S : Nat → Int32) (nn pp : Nat) (fo : Nat → Int64) (g0 : zCI nn pp M S) (x : Int32) : Met l y_L_count ws_L_count ({ frames := 7, cells := 1, slots := 6, locals := 114 }) (va_Pc [.ref h0, .int x, .ref o0] (cx_P (dC, dI) vwCl (wXO h0 h1 h2 o0 cA cB cO M S (nI nn) (nI pp) fo) (tXO cA cB cO) sz)) (va_Qi (S := (Nat × Nat × (Nat → Int32) × (Nat → Int32)) × (Nat → Int64)) (fun (r : Int32) (u : (Nat × Nat × (Nat → Int32) × (Nat → Int32)) × (Nat → Int64)) => (r = nI 0 ∧ ∃ rr : Int32, u.2 = vp_updL fo 0 rr.toInt64 ∧ u.1 = (nn, pp, M, S) ∧ ((x = nI 0 ∧ rr = nI (nn)) ∨ (x = nI 1 ∧ rr = nI ((nn + 31) / 32)) ∨ (x = nI 2 ∧ rr = nI (pp)) ∨ (x = nI 3 ∧ rr = nI (zF max (zm M) nn (pp - 1) (zn (zm M) nn 1) (zn (zm M) nn 1))) ∨ (x = nI 4 ∧ rr = nI (zF min (zm M) nn (pp - 1) (zn (zm M) nn 1) (zn (zm M) nn 1))))) ∨ (r = nI 1 ∧ (¬ (x = nI 0 ∨ x = nI 1 ∨ x = nI 2 ∨ x = nI 3 ∨ x = nI 4)) ∧ u = ((nn, pp, M, S), fo))) (fun u t => cc_B (dC, dI) vwCl (tXO cA cB cO) (va_A (wXO h0 h1 h2 o0 cA cB cO M S (nI nn) (nI pp) fo) sz) ((fun u : (Nat × Nat × (Nat → Int32) × (Nat → Int32)) × (Nat → Int64) => (wXO h0 h1 h2 o0 cA cB cO u.1.2.2.1 u.1.2.2.2 (nI u.1.1) (nI u.1.2.1) u.2)) u) t) (va_A (wXO h0 h1 h2 o0 cA cB cO M S (nI nn) (nI pp) fo) sz)) 1 6 (va_A (wXO h0 h1 h2 o0 cA cB cO M S (nI nn) (nI pp) fo) sz) := by
  refine va_MetW (cc := c_L_count) (maxL := 4) (ret := (some .int)) (hh := [(0, 9, 12, 13)]) (by decide) rfl ?_
  intro p e s m args below meth c s₁ B hml hv
  obtain ⟨rfl, ⟨hsz, hP, hK, hD0⟩, hZ⟩ := hv
  have hx := B.exec
  have hb := B.bytes
  have hr := B.returns
  have hts : ∀ w ∈ zAll, w.before _ s = true := fun w h => atoms_spec (ws := ws_L_count) B.pre w (List.mem_cons_of_mem _ h)
  have htab : c.exceptionTable.toList = tableOf [(0, 9, 12, 13)] := vx_table (x := y_L_count) B (atoms_spec (ws := ws_L_count) B.pre _ List.mem_cons_self)
  have hown : s.vm.findClass RL = some m.cls := findClass_of_methodNamed B.named
  have hlocks := B.notSynchronized
  subst hsz
  have hD := hD0.self (sz := s.heap.size)
  generalize hAe : va_A (wXO h0 h1 h2 o0 cA cB cO M S (nI nn) (nI pp) fo) s.heap.size = A at hD hZ ⊢
  have hA : ∀ q : Nat, s.heap.size ≤ q → A q := fun q h => by rw [← hAe]; exact Or.inr h
  have hS : va_S A s.heap s.heap [] := va_S.rf
  replace hP : va_P (dC, dI) vwCl [(h0, .inr (0, [.ref h1, .ref h2, .int (nI nn), .int (nI pp)])), (h1, .inl (cA, 512, .inl M)), (h2, .inl (cB, 512, .inl S)), (o0, .inl (cO, 1, .inr (.inl fo)))] s.heap := hP
  replace hD : va_D A [(h0, .inr (0, [.ref h1, .ref h2, .int (nI nn), .int (nI pp)])), (h1, .inl (cA, 512, .inl M)), (h2, .inl (cB, 512, .inl S)), (o0, .inl (cO, 1, .inr (.inl fo)))] := hD
  have hl := lv_entry ([.ref h0, .int x, .ref o0]) (n := 4) (Nat.le_of_ble_eq_true rfl)
  rw [lg_entry_eq]
  generalize (lg_sl ([.ref h0, .int x, .ref o0]) ++ List.replicate (4 - (lg_sl ([.ref h0, .int x, .ref o0])).length) Slot.unset).toArray = ls at hl ⊢
  replace hl : lv_has ls 4 [(0, .ref h0), (1, .int x), (2, .ref o0)] := hl
  refine lv_aload_n hx hb d_L_count_0 rfl (lv_at hl 2 rfl) ?_
  refine lv_iconst (v := nI 0) hx hb d_L_count_1 (by decide) ?_
  refine lv_aload_n hx hb d_L_count_2 rfl (lv_at hl 0 rfl) ?_
  refine lv_iload_n hx hb d_L_count_3 rfl (lv_at hl 1 rfl) ?_
  refine cx_Vi (wc := [(h0, .inr (0, [.ref h1, .ref h2, .int (nI nn), .int (nI pp)])), (h1, .inl (cA, 512, .inl M)), (h2, .inl (cB, 512, .inl S))]) (wr := [(o0, .inl (cO, 1, .inr (.inl fo)))]) (tys' := [(cA, .int), (cB, .int)]) ⟨hx, hb, hml, hown, hts⟩ hP hD hK hS hA hZ [0, 1, 2] [3] [0, 1] rfl rfl rfl (by decide) (by decide) (by decide) rfl (c_count l hlt dC dI h0 h1 h2 cA cB _ M S nn pp g0 x) (cwV 1 hts g_L_39 rfl rfl rfl (by decide +kernel) ⟨Nat.le_of_ble_eq_true rfl, Nat.le_of_ble_eq_true rfl⟩) 0 0 rfl rfl rfl rfl hl.1 rfl (Nat.le_of_ble_eq_true rfl) d_L_count_4 ⟨Nat.le_of_ble_eq_true rfl, Nat.le_of_ble_eq_true rfl⟩ (fun ce q9 H locs hbad hP hD hS y1 y2 y3 => ?_) (fun r_9 u H locs hw hP hD hS => ?_)
  · replace hP : va_P (dC, dI) vwCl [(o0, .inl (cO, 1, .inr (.inl fo))), (h0, .inr (0, [.ref h1, .ref h2, .int (nI nn), .int (nI pp)])), (h1, .inl (cA, 512, .inl M)), (h2, .inl (cB, 512, .inl S))] H := hP
    replace hD : va_D A [(o0, .inl (cO, 1, .inr (.inl fo))), (h0, .inr (0, [.ref h1, .ref h2, .int (nI nn), .int (nI pp)])), (h1, .inl (cA, 512, .inl M)), (h2, .inl (cB, 512, .inl S))] := hD
    refine vx_catch (pc := 4) hown [] ⟨0, 9, 12, 13⟩ [] htab (fun z h => absurd h List.not_mem_nil) (by decide) (by decide) (hts _ wl_L_13) (va_Nw.use (zBad_on _ wzb_IAE) (hZ.2.1 _ wzb_IAE)) y1 y2 y3 ?_
    refine W.eq (g2 := F0 m 12 ls [.ref q9]) rfl ?_
    refine lv_astore_n (lv' := [(3, .ref q9), (0, .ref h0), (1, .int x), (2, .ref o0)]) hx hb d_L_count_12 rfl hl (by decide) rfl (fun ls hl => ?_)
    refine lv_iconst (v := nI 1) hx hb d_L_count_13 (by decide) ?_
    replace hP := hP.sub (ws' := [(h0, .inr (0, [.ref h1, .ref h2, .int (nI nn), .int (nI pp)])), (h1, .inl (cA, 512, .inl M)), (h2, .inl (cB, 512, .inl S)), (o0, .inl (cO, 1, .inr (.inl fo)))]) [1, 2, 3, 0] rfl
    replace hD := hD.sub (ws' := [(h0, .inr (0, [.ref h1, .ref h2, .int (nI nn), .int (nI pp)])), (h1, .inl (cA, 512, .inl M)), (h2, .inl (cB, 512, .inl S)), (o0, .inl (cO, 1, .inr (.inl fo)))]) [1, 2, 3, 0] (by decide) rfl
    refine W.widen (k := 1) (n := 6) (by decide) (by decide) ?_
    exact W.iret (v := nI 1) hx hb hr (fun t9 ht9 hW9 => ⟨⟨nI 1, ((nn, pp, M, S), fo), rfl, Or.inr ⟨rfl, hbad, rfl⟩, by rw [ht9]; exact hP, va_K.moved hW9.alike hK, hD⟩, hS.F ht9⟩) hS.2.2 d_L_count_14
  · replace hP : va_P (dC, dI) vwCl [(o0, .inl (cO, 1, .inr (.inl fo))), (h0, .inr (0, [.ref h1, .ref h2, .int (nI nn), .int (nI pp)])), (h1, .inl (cA, 512, .inl M)), (h2, .inl (cB, 512, .inl S))] H := hP
    replace hD : va_D A [(o0, .inl (cO, 1, .inr (.inl fo))), (h0, .inr (0, [.ref h1, .ref h2, .int (nI nn), .int (nI pp)])), (h1, .inl (cA, 512, .inl M)), (h2, .inl (cB, 512, .inl S))] := hD
    refine lv_i2l (v := r_9.toInt64) hx hb d_L_count_7 rfl ?_
    refine va_last hx hb hK hP hD hS 0 2 rfl rfl (vp_in_nI (by omega) (by decide)) d_L_count_8 (fun H locs hP hD hS => ?_)
    rw [nI_clamp (by omega)] at hP hD
    replace hP : va_P (dC, dI) vwCl [(o0, .inl (cO, 1, .inr (.inl (vp_updL fo 0 r_9.toInt64)))), (h0, .inr (0, [.ref h1, .ref h2, .int (nI nn), .int (nI pp)])), (h1, .inl (cA, 512, .inl M)), (h2, .inl (cB, 512, .inl S))] H := hP
    replace hD : va_D A [(o0, .inl (cO, 1, .inr (.inl (vp_updL fo 0 r_9.toInt64)))), (h0, .inr (0, [.ref h1, .ref h2, .int (nI nn), .int (nI pp)])), (h1, .inl (cA, 512, .inl M)), (h2, .inl (cB, 512, .inl S))] := hD
    refine lv_goto (tgt := 15) hx hb d_L_count_9 (by decide) ?_
    refine lv_iconst (v := nI 0) hx hb d_L_count_15 (by decide) ?_
    replace hP := hP.sub (ws' := [(h0, .inr (0, [.ref h1, .ref h2, .int (nI nn), .int (nI pp)])), (h1, .inl (cA, 512, .inl M)), (h2, .inl (cB, 512, .inl S)), (o0, .inl (cO, 1, .inr (.inl (vp_updL fo 0 r_9.toInt64))))]) [1, 2, 3, 0] rfl
    replace hD := hD.sub (ws' := [(h0, .inr (0, [.ref h1, .ref h2, .int (nI nn), .int (nI pp)])), (h1, .inl (cA, 512, .inl M)), (h2, .inl (cB, 512, .inl S)), (o0, .inl (cO, 1, .inr (.inl (vp_updL fo 0 r_9.toInt64))))]) [1, 2, 3, 0] (by decide) rfl
    refine W.widen (k := 1) (n := 6) (by decide) (by decide) ?_
    exact W.iret (v := nI 0) hx hb hr (fun t9 ht9 hW9 => ⟨⟨nI 0, ((nn, pp, M, S), vp_updL fo 0 r_9.toInt64), rfl, Or.inl ⟨rfl, r_9, rfl, rfl, hw⟩, by rw [ht9]; exact hP, va_K.moved hW9.alike hK, hD⟩, hS.F ht9⟩) hS.2.2 d_L_count_16
set_option maxHeartbeats 4000000 in
set_option maxRecDepth 100000 in
/-- the law's own cut -/
theorem cL_cut (l : Launch) (hlt : l.stackTraces = false) (dC : Nat → ClassId) (dI : Nat → Nat → Nat) (h0 h1 h2 o0 : Nat) (cA cB cO : ClassId) (sz : Nat) (M S : Nat → Int32) (nn pp : Nat) (fo : Nat → Int64) (g0 : zCI nn pp M S) (x : Int32) : Met l y_L_cut ws_L_cut ({ frames := 8, cells := 1, slots := 6, locals := 133 }) (va_Pc [.ref h0, .int x, .ref o0] (cx_P (dC, dI) vwCl (wXO h0 h1 h2 o0 cA cB cO M S (nI nn) (nI pp) fo) (tXO cA cB cO) sz)) (va_Qi (S := (Nat × Nat × (Nat → Int32) × (Nat → Int32)) × (Nat → Int64)) (fun (r : Int32) (u : (Nat × Nat × (Nat → Int32) × (Nat → Int32)) × (Nat → Int64)) => (r = nI 0 ∧ ∃ rr : Int32, u.2 = vp_updL fo 0 rr.toInt64 ∧ u.1.1 = nn ∧ zCI nn u.1.2.1 u.1.2.2.1 u.1.2.2.2 ∧ ∃ k, k < nn ∧ x = nI k ∧ rr = nI (k - zb (zm M) k) ∧ ∀ j, zm u.1.2.2.1 j = (zm M j || decide (j = k))) ∨ (r = nI 1 ∧ (¬ ∃ k, k < nn ∧ x = nI k) ∧ u = ((nn, pp, M, S), fo))) (fun u t => cc_B (dC, dI) vwCl (tXO cA cB cO) (va_A (wXO h0 h1 h2 o0 cA cB cO M S (nI nn) (nI pp) fo) sz) ((fun u : (Nat × Nat × (Nat → Int32) × (Nat → Int32)) × (Nat → Int64) => (wXO h0 h1 h2 o0 cA cB cO u.1.2.2.1 u.1.2.2.2 (nI u.1.1) (nI u.1.2.1) u.2)) u) t) (va_A (wXO h0 h1 h2 o0 cA cB cO M S (nI nn) (nI pp) fo) sz)) 1 6 (va_A (wXO h0 h1 h2 o0 cA cB cO M S (nI nn) (nI pp) fo) sz) := by
  refine va_MetW (cc := c_L_cut) (maxL := 4) (ret := (some .int)) (hh := [(0, 9, 12, 18)]) (by decide) rfl ?_
  intro p e s m args below meth c s₁ B hml hv
  obtain ⟨rfl, ⟨hsz, hP, hK, hD0⟩, hZ⟩ := hv
  have hx := B.exec
  have hb := B.bytes
  have hr := B.returns
  have hts : ∀ w ∈ zAll, w.before _ s = true := fun w h => atoms_spec (ws := ws_L_cut) B.pre w (List.mem_cons_of_mem _ h)
  have htab : c.exceptionTable.toList = tableOf [(0, 9, 12, 18)] := vx_table (x := y_L_cut) B (atoms_spec (ws := ws_L_cut) B.pre _ List.mem_cons_self)
  have hown : s.vm.findClass RL = some m.cls := findClass_of_methodNamed B.named
  have hlocks := B.notSynchronized
  subst hsz
  have hD := hD0.self (sz := s.heap.size)
  generalize hAe : va_A (wXO h0 h1 h2 o0 cA cB cO M S (nI nn) (nI pp) fo) s.heap.size = A at hD hZ ⊢
  have hA : ∀ q : Nat, s.heap.size ≤ q → A q := fun q h => by rw [← hAe]; exact Or.inr h
  have hS : va_S A s.heap s.heap [] := va_S.rf
  replace hP : va_P (dC, dI) vwCl [(h0, .inr (0, [.ref h1, .ref h2, .int (nI nn), .int (nI pp)])), (h1, .inl (cA, 512, .inl M)), (h2, .inl (cB, 512, .inl S)), (o0, .inl (cO, 1, .inr (.inl fo)))] s.heap := hP
  replace hD : va_D A [(h0, .inr (0, [.ref h1, .ref h2, .int (nI nn), .int (nI pp)])), (h1, .inl (cA, 512, .inl M)), (h2, .inl (cB, 512, .inl S)), (o0, .inl (cO, 1, .inr (.inl fo)))] := hD
  have hl := lv_entry ([.ref h0, .int x, .ref o0]) (n := 4) (Nat.le_of_ble_eq_true rfl)
  rw [lg_entry_eq]
  generalize (lg_sl ([.ref h0, .int x, .ref o0]) ++ List.replicate (4 - (lg_sl ([.ref h0, .int x, .ref o0])).length) Slot.unset).toArray = ls at hl ⊢
  replace hl : lv_has ls 4 [(0, .ref h0), (1, .int x), (2, .ref o0)] := hl
  refine lv_aload_n hx hb d_L_cut_0 rfl (lv_at hl 2 rfl) ?_
  refine lv_iconst (v := nI 0) hx hb d_L_cut_1 (by decide) ?_
  refine lv_aload_n hx hb d_L_cut_2 rfl (lv_at hl 0 rfl) ?_
  refine lv_iload_n hx hb d_L_cut_3 rfl (lv_at hl 1 rfl) ?_
  refine cx_Vi (wc := [(h0, .inr (0, [.ref h1, .ref h2, .int (nI nn), .int (nI pp)])), (h1, .inl (cA, 512, .inl M)), (h2, .inl (cB, 512, .inl S))]) (wr := [(o0, .inl (cO, 1, .inr (.inl fo)))]) (tys' := [(cA, .int), (cB, .int)]) ⟨hx, hb, hml, hown, hts⟩ hP hD hK hS hA hZ [0, 1, 2] [3] [0, 1] rfl rfl rfl (by decide) (by decide) (by decide) rfl (c_cut l hlt dC dI h0 h1 h2 cA cB _ M S nn pp g0 x) (cwV 1 hts g_L_15 rfl rfl rfl (by decide +kernel) ⟨Nat.le_of_ble_eq_true rfl, Nat.le_of_ble_eq_true rfl⟩) 0 0 rfl rfl rfl rfl hl.1 rfl (Nat.le_of_ble_eq_true rfl) d_L_cut_4 ⟨Nat.le_of_ble_eq_true rfl, Nat.le_of_ble_eq_true rfl⟩ (fun ce q9 H locs hbad hP hD hS y1 y2 y3 => ?_) (fun r_9 u H locs hw hP hD hS => ?_)
  · replace hP : va_P (dC, dI) vwCl [(o0, .inl (cO, 1, .inr (.inl fo))), (h0, .inr (0, [.ref h1, .ref h2, .int (nI nn), .int (nI pp)])), (h1, .inl (cA, 512, .inl M)), (h2, .inl (cB, 512, .inl S))] H := hP
    replace hD : va_D A [(o0, .inl (cO, 1, .inr (.inl fo))), (h0, .inr (0, [.ref h1, .ref h2, .int (nI nn), .int (nI pp)])), (h1, .inl (cA, 512, .inl M)), (h2, .inl (cB, 512, .inl S))] := hD
    refine vx_catch (pc := 4) hown [] ⟨0, 9, 12, 18⟩ [] htab (fun z h => absurd h List.not_mem_nil) (by decide) (by decide) (hts _ wl_L_18) (va_Nw.use (zBad_on _ wzb_IOOBE) (hZ.2.1 _ wzb_IOOBE)) y1 y2 y3 ?_
    refine W.eq (g2 := F0 m 12 ls [.ref q9]) rfl ?_
    refine lv_astore_n (lv' := [(3, .ref q9), (0, .ref h0), (1, .int x), (2, .ref o0)]) hx hb d_L_cut_12 rfl hl (by decide) rfl (fun ls hl => ?_)
    refine lv_iconst (v := nI 1) hx hb d_L_cut_13 (by decide) ?_
    replace hP := hP.sub (ws' := [(h0, .inr (0, [.ref h1, .ref h2, .int (nI nn), .int (nI pp)])), (h1, .inl (cA, 512, .inl M)), (h2, .inl (cB, 512, .inl S)), (o0, .inl (cO, 1, .inr (.inl fo)))]) [1, 2, 3, 0] rfl
    replace hD := hD.sub (ws' := [(h0, .inr (0, [.ref h1, .ref h2, .int (nI nn), .int (nI pp)])), (h1, .inl (cA, 512, .inl M)), (h2, .inl (cB, 512, .inl S)), (o0, .inl (cO, 1, .inr (.inl fo)))]) [1, 2, 3, 0] (by decide) rfl
    refine W.widen (k := 1) (n := 6) (by decide) (by decide) ?_
    exact W.iret (v := nI 1) hx hb hr (fun t9 ht9 hW9 => ⟨⟨nI 1, ((nn, pp, M, S), fo), rfl, Or.inr ⟨rfl, hbad, rfl⟩, by rw [ht9]; exact hP, va_K.moved hW9.alike hK, hD⟩, hS.F ht9⟩) hS.2.2 d_L_cut_14
  · replace hP : va_P (dC, dI) vwCl [(o0, .inl (cO, 1, .inr (.inl fo))), (h0, .inr (0, [.ref h1, .ref h2, .int (nI nn), .int (nI u.2.2)])), (h1, .inl (cA, 512, .inl u.1)), (h2, .inl (cB, 512, .inl u.2.1))] H := hP
    replace hD : va_D A [(o0, .inl (cO, 1, .inr (.inl fo))), (h0, .inr (0, [.ref h1, .ref h2, .int (nI nn), .int (nI u.2.2)])), (h1, .inl (cA, 512, .inl u.1)), (h2, .inl (cB, 512, .inl u.2.1))] := hD
    refine lv_i2l (v := r_9.toInt64) hx hb d_L_cut_7 rfl ?_
    refine va_last hx hb hK hP hD hS 0 2 rfl rfl (vp_in_nI (by omega) (by decide)) d_L_cut_8 (fun H locs hP hD hS => ?_)
    rw [nI_clamp (by omega)] at hP hD
    replace hP : va_P (dC, dI) vwCl [(o0, .inl (cO, 1, .inr (.inl (vp_updL fo 0 r_9.toInt64)))), (h0, .inr (0, [.ref h1, .ref h2, .int (nI nn), .int (nI u.2.2)])), (h1, .inl (cA, 512, .inl u.1)), (h2, .inl (cB, 512, .inl u.2.1))] H := hP
    replace hD : va_D A [(o0, .inl (cO, 1, .inr (.inl (vp_updL fo 0 r_9.toInt64)))), (h0, .inr (0, [.ref h1, .ref h2, .int (nI nn), .int (nI u.2.2)])), (h1, .inl (cA, 512, .inl u.1)), (h2, .inl (cB, 512, .inl u.2.1))] := hD
    refine lv_goto (tgt := 15) hx hb d_L_cut_9 (by decide) ?_
    refine lv_iconst (v := nI 0) hx hb d_L_cut_15 (by decide) ?_
    replace hP := hP.sub (ws' := [(h0, .inr (0, [.ref h1, .ref h2, .int (nI nn), .int (nI u.2.2)])), (h1, .inl (cA, 512, .inl u.1)), (h2, .inl (cB, 512, .inl u.2.1)), (o0, .inl (cO, 1, .inr (.inl (vp_updL fo 0 r_9.toInt64))))]) [1, 2, 3, 0] rfl
    replace hD := hD.sub (ws' := [(h0, .inr (0, [.ref h1, .ref h2, .int (nI nn), .int (nI u.2.2)])), (h1, .inl (cA, 512, .inl u.1)), (h2, .inl (cB, 512, .inl u.2.1)), (o0, .inl (cO, 1, .inr (.inl (vp_updL fo 0 r_9.toInt64))))]) [1, 2, 3, 0] (by decide) rfl
    refine W.widen (k := 1) (n := 6) (by decide) (by decide) ?_
    obtain ⟨k, k1, k2, k3, k4, k5⟩ := hw
    exact W.iret (v := nI 0) hx hb hr (fun t9 ht9 hW9 => ⟨⟨nI 0, ((nn, u.2.2, u.1, u.2.1), vp_updL fo 0 r_9.toInt64), rfl, Or.inl ⟨rfl, r_9, rfl, rfl, k4, k, k1, k2, k3, k5⟩, by rw [ht9]; exact hP, va_K.moved hW9.alike hK, hD⟩, hS.F ht9⟩) hS.2.2 d_L_cut_16
set_option maxHeartbeats 4000000 in
set_option maxRecDepth 100000 in
/-- the law's own join -/
theorem cL_join (l : Launch) (hlt : l.stackTraces = false) (dC : Nat → ClassId) (dI : Nat → Nat → Nat) (h0 h1 h2 o0 : Nat) (cA cB cO : ClassId) (sz : Nat) (M S : Nat → Int32) (nn pp : Nat) (fo : Nat → Int64) (g0 : zCI nn pp M S) (x : Int32) : Met l y_L_join ws_L_join ({ frames := 8, cells := 1, slots := 6, locals := 135 }) (va_Pc [.ref h0, .int x, .ref o0] (cx_P (dC, dI) vwCl (wXO h0 h1 h2 o0 cA cB cO M S (nI nn) (nI pp) fo) (tXO cA cB cO) sz)) (va_Qi (S := (Nat × Nat × (Nat → Int32) × (Nat → Int32)) × (Nat → Int64)) (fun (r : Int32) (u : (Nat × Nat × (Nat → Int32) × (Nat → Int32)) × (Nat → Int64)) => (r = nI 0 ∧ ∃ rr : Int32, u.2 = vp_updL fo 0 rr.toInt64 ∧ u.1.1 = nn ∧ zCI nn u.1.2.1 u.1.2.2.1 u.1.2.2.2 ∧ ∃ k, k < nn ∧ x = nI k ∧ rr = nI (if zn (zm M) nn (k + 1) < nn then zn (zm M) nn (zn (zm M) nn (k + 1) + 1) - zb (zm M) k else 0) ∧ ∀ j, j < 16384 → zm u.1.2.2.1 j = (zm M j && !decide (j = zn (zm M) nn (k + 1)))) ∨ (r = nI 1 ∧ (¬ ∃ k, k < nn ∧ x = nI k) ∧ u = ((nn, pp, M, S), fo))) (fun u t => cc_B (dC, dI) vwCl (tXO cA cB cO) (va_A (wXO h0 h1 h2 o0 cA cB cO M S (nI nn) (nI pp) fo) sz) ((fun u : (Nat × Nat × (Nat → Int32) × (Nat → Int32)) × (Nat → Int64) => (wXO h0 h1 h2 o0 cA cB cO u.1.2.2.1 u.1.2.2.2 (nI u.1.1) (nI u.1.2.1) u.2)) u) t) (va_A (wXO h0 h1 h2 o0 cA cB cO M S (nI nn) (nI pp) fo) sz)) 1 6 (va_A (wXO h0 h1 h2 o0 cA cB cO M S (nI nn) (nI pp) fo) sz) := by
  refine va_MetW (cc := c_L_join) (maxL := 4) (ret := (some .int)) (hh := [(0, 9, 12, 18)]) (by decide) rfl ?_
  intro p e s m args below meth c s₁ B hml hv
  obtain ⟨rfl, ⟨hsz, hP, hK, hD0⟩, hZ⟩ := hv
  have hx := B.exec
  have hb := B.bytes
  have hr := B.returns
  have hts : ∀ w ∈ zAll, w.before _ s = true := fun w h => atoms_spec (ws := ws_L_join) B.pre w (List.mem_cons_of_mem _ h)
  have htab : c.exceptionTable.toList = tableOf [(0, 9, 12, 18)] := vx_table (x := y_L_join) B (atoms_spec (ws := ws_L_join) B.pre _ List.mem_cons_self)
  have hown : s.vm.findClass RL = some m.cls := findClass_of_methodNamed B.named
  have hlocks := B.notSynchronized
  subst hsz
  have hD := hD0.self (sz := s.heap.size)
  generalize hAe : va_A (wXO h0 h1 h2 o0 cA cB cO M S (nI nn) (nI pp) fo) s.heap.size = A at hD hZ ⊢
  have hA : ∀ q : Nat, s.heap.size ≤ q → A q := fun q h => by rw [← hAe]; exact Or.inr h
  have hS : va_S A s.heap s.heap [] := va_S.rf
  replace hP : va_P (dC, dI) vwCl [(h0, .inr (0, [.ref h1, .ref h2, .int (nI nn), .int (nI pp)])), (h1, .inl (cA, 512, .inl M)), (h2, .inl (cB, 512, .inl S)), (o0, .inl (cO, 1, .inr (.inl fo)))] s.heap := hP
  replace hD : va_D A [(h0, .inr (0, [.ref h1, .ref h2, .int (nI nn), .int (nI pp)])), (h1, .inl (cA, 512, .inl M)), (h2, .inl (cB, 512, .inl S)), (o0, .inl (cO, 1, .inr (.inl fo)))] := hD
  have hl := lv_entry ([.ref h0, .int x, .ref o0]) (n := 4) (Nat.le_of_ble_eq_true rfl)
  rw [lg_entry_eq]
  generalize (lg_sl ([.ref h0, .int x, .ref o0]) ++ List.replicate (4 - (lg_sl ([.ref h0, .int x, .ref o0])).length) Slot.unset).toArray = ls at hl ⊢
  replace hl : lv_has ls 4 [(0, .ref h0), (1, .int x), (2, .ref o0)] := hl
  refine lv_aload_n hx hb d_L_join_0 rfl (lv_at hl 2 rfl) ?_
  refine lv_iconst (v := nI 0) hx hb d_L_join_1 (by decide) ?_
  refine lv_aload_n hx hb d_L_join_2 rfl (lv_at hl 0 rfl) ?_
  refine lv_iload_n hx hb d_L_join_3 rfl (lv_at hl 1 rfl) ?_
  refine cx_Vi (wc := [(h0, .inr (0, [.ref h1, .ref h2, .int (nI nn), .int (nI pp)])), (h1, .inl (cA, 512, .inl M)), (h2, .inl (cB, 512, .inl S))]) (wr := [(o0, .inl (cO, 1, .inr (.inl fo)))]) (tys' := [(cA, .int), (cB, .int)]) ⟨hx, hb, hml, hown, hts⟩ hP hD hK hS hA hZ [0, 1, 2] [3] [0, 1] rfl rfl rfl (by decide) (by decide) (by decide) rfl (c_join l hlt dC dI h0 h1 h2 cA cB _ M S nn pp g0 x) (cwV 1 hts g_L_20 rfl rfl rfl (by decide +kernel) ⟨Nat.le_of_ble_eq_true rfl, Nat.le_of_ble_eq_true rfl⟩) 0 0 rfl rfl rfl rfl hl.1 rfl (Nat.le_of_ble_eq_true rfl) d_L_join_4 ⟨Nat.le_of_ble_eq_true rfl, Nat.le_of_ble_eq_true rfl⟩ (fun ce q9 H locs hbad hP hD hS y1 y2 y3 => ?_) (fun r_9 u H locs hw hP hD hS => ?_)
  · replace hP : va_P (dC, dI) vwCl [(o0, .inl (cO, 1, .inr (.inl fo))), (h0, .inr (0, [.ref h1, .ref h2, .int (nI nn), .int (nI pp)])), (h1, .inl (cA, 512, .inl M)), (h2, .inl (cB, 512, .inl S))] H := hP
    replace hD : va_D A [(o0, .inl (cO, 1, .inr (.inl fo))), (h0, .inr (0, [.ref h1, .ref h2, .int (nI nn), .int (nI pp)])), (h1, .inl (cA, 512, .inl M)), (h2, .inl (cB, 512, .inl S))] := hD
    refine vx_catch (pc := 4) hown [] ⟨0, 9, 12, 18⟩ [] htab (fun z h => absurd h List.not_mem_nil) (by decide) (by decide) (hts _ wl_L_18) (va_Nw.use (zBad_on _ wzb_IOOBE) (hZ.2.1 _ wzb_IOOBE)) y1 y2 y3 ?_
    refine W.eq (g2 := F0 m 12 ls [.ref q9]) rfl ?_
    refine lv_astore_n (lv' := [(3, .ref q9), (0, .ref h0), (1, .int x), (2, .ref o0)]) hx hb d_L_join_12 rfl hl (by decide) rfl (fun ls hl => ?_)
    refine lv_iconst (v := nI 1) hx hb d_L_join_13 (by decide) ?_
    replace hP := hP.sub (ws' := [(h0, .inr (0, [.ref h1, .ref h2, .int (nI nn), .int (nI pp)])), (h1, .inl (cA, 512, .inl M)), (h2, .inl (cB, 512, .inl S)), (o0, .inl (cO, 1, .inr (.inl fo)))]) [1, 2, 3, 0] rfl
    replace hD := hD.sub (ws' := [(h0, .inr (0, [.ref h1, .ref h2, .int (nI nn), .int (nI pp)])), (h1, .inl (cA, 512, .inl M)), (h2, .inl (cB, 512, .inl S)), (o0, .inl (cO, 1, .inr (.inl fo)))]) [1, 2, 3, 0] (by decide) rfl
    refine W.widen (k := 1) (n := 6) (by decide) (by decide) ?_
    exact W.iret (v := nI 1) hx hb hr (fun t9 ht9 hW9 => ⟨⟨nI 1, ((nn, pp, M, S), fo), rfl, Or.inr ⟨rfl, hbad, rfl⟩, by rw [ht9]; exact hP, va_K.moved hW9.alike hK, hD⟩, hS.F ht9⟩) hS.2.2 d_L_join_14
  · replace hP : va_P (dC, dI) vwCl [(o0, .inl (cO, 1, .inr (.inl fo))), (h0, .inr (0, [.ref h1, .ref h2, .int (nI nn), .int (nI u.2.2)])), (h1, .inl (cA, 512, .inl u.1)), (h2, .inl (cB, 512, .inl u.2.1))] H := hP
    replace hD : va_D A [(o0, .inl (cO, 1, .inr (.inl fo))), (h0, .inr (0, [.ref h1, .ref h2, .int (nI nn), .int (nI u.2.2)])), (h1, .inl (cA, 512, .inl u.1)), (h2, .inl (cB, 512, .inl u.2.1))] := hD
    refine lv_i2l (v := r_9.toInt64) hx hb d_L_join_7 rfl ?_
    refine va_last hx hb hK hP hD hS 0 2 rfl rfl (vp_in_nI (by omega) (by decide)) d_L_join_8 (fun H locs hP hD hS => ?_)
    rw [nI_clamp (by omega)] at hP hD
    replace hP : va_P (dC, dI) vwCl [(o0, .inl (cO, 1, .inr (.inl (vp_updL fo 0 r_9.toInt64)))), (h0, .inr (0, [.ref h1, .ref h2, .int (nI nn), .int (nI u.2.2)])), (h1, .inl (cA, 512, .inl u.1)), (h2, .inl (cB, 512, .inl u.2.1))] H := hP
    replace hD : va_D A [(o0, .inl (cO, 1, .inr (.inl (vp_updL fo 0 r_9.toInt64)))), (h0, .inr (0, [.ref h1, .ref h2, .int (nI nn), .int (nI u.2.2)])), (h1, .inl (cA, 512, .inl u.1)), (h2, .inl (cB, 512, .inl u.2.1))] := hD
    refine lv_goto (tgt := 15) hx hb d_L_join_9 (by decide) ?_
    refine lv_iconst (v := nI 0) hx hb d_L_join_15 (by decide) ?_
    replace hP := hP.sub (ws' := [(h0, .inr (0, [.ref h1, .ref h2, .int (nI nn), .int (nI u.2.2)])), (h1, .inl (cA, 512, .inl u.1)), (h2, .inl (cB, 512, .inl u.2.1)), (o0, .inl (cO, 1, .inr (.inl (vp_updL fo 0 r_9.toInt64))))]) [1, 2, 3, 0] rfl
    replace hD := hD.sub (ws' := [(h0, .inr (0, [.ref h1, .ref h2, .int (nI nn), .int (nI u.2.2)])), (h1, .inl (cA, 512, .inl u.1)), (h2, .inl (cB, 512, .inl u.2.1)), (o0, .inl (cO, 1, .inr (.inl (vp_updL fo 0 r_9.toInt64))))]) [1, 2, 3, 0] (by decide) rfl
    refine W.widen (k := 1) (n := 6) (by decide) (by decide) ?_
    obtain ⟨k, k1, k2, k3, k4, k5⟩ := hw
    exact W.iret (v := nI 0) hx hb hr (fun t9 ht9 hW9 => ⟨⟨nI 0, ((nn, u.2.2, u.1, u.2.1), vp_updL fo 0 r_9.toInt64), rfl, Or.inl ⟨rfl, r_9, rfl, rfl, k4, k, k1, k2, k3, k5⟩, by rw [ht9]; exact hP, va_K.moved hW9.alike hK, hD⟩, hS.F ht9⟩) hS.2.2 d_L_join_16
set_option maxHeartbeats 4000000 in
set_option maxRecDepth 100000 in
/-- the law's own make -/
theorem cL_make (l : Launch) (hlt : l.stackTraces = false) (dC : Nat → ClassId) (dI : Nat → Nat → Nat) (h0 h1 h2 o0 : Nat) (cA cB cO : ClassId) (sz : Nat) (M S : Nat → Int32) (nn pp : Nat) (fo : Nat → Int64) (g0 : zCI nn pp M S) (x z : Int32) : Met l y_L_make ws_L_make ({ frames := 8, cells := 2, slots := 12, locals := 133 }) (va_Pc [.ref h0, .int x, .int z, .ref o0] (cx_P (dC, dI) vwCl (wXO h0 h1 h2 o0 cA cB cO M S (nI nn) (nI pp) fo) (tXO cA cB cO) sz)) (va_Qi (S := (Nat × Nat × (Nat → Int32) × (Nat → Int32)) × (Nat → Int64)) (fun (r : Int32) (u : (Nat × Nat × (Nat → Int32) × (Nat → Int32)) × (Nat → Int64)) => (r = nI 0 ∧ ∃ rr : Int32, u.2 = vp_updL fo 0 rr.toInt64 ∧ u.1.1 = nn ∧ zCI nn u.1.2.1 u.1.2.2.1 u.1.2.2.2 ∧ ∃ a b, x = nI a ∧ z = nI b ∧ a < b ∧ b ≤ nn ∧ rr = nI u.1.2.1 ∧ ∀ j, j < 16384 → zm u.1.2.2.1 j = ((zm M j || decide (j = a) || (decide (j = b) && decide (b < nn))) && !decide (a < j ∧ j < b))) ∨ (r = nI 1 ∧ (¬ ∃ a b, x = nI a ∧ z = nI b ∧ a < b ∧ b ≤ nn) ∧ u = ((nn, pp, M, S), fo))) (fun u t => cc_B (dC, dI) vwCl (tXO cA cB cO) (va_A (wXO h0 h1 h2 o0 cA cB cO M S (nI nn) (nI pp) fo) sz) ((fun u : (Nat × Nat × (Nat → Int32) × (Nat → Int32)) × (Nat → Int64) => (wXO h0 h1 h2 o0 cA cB cO u.1.2.2.1 u.1.2.2.2 (nI u.1.1) (nI u.1.2.1) u.2)) u) t) (va_A (wXO h0 h1 h2 o0 cA cB cO M S (nI nn) (nI pp) fo) sz)) 2 12 (va_A (wXO h0 h1 h2 o0 cA cB cO M S (nI nn) (nI pp) fo) sz) := by
  refine va_MetW (cc := c_L_make) (maxL := 5) (ret := (some .int)) (hh := [(0, 10, 13, 18)]) (by decide) rfl ?_
  intro p e s m args below meth c s₁ B hml hv
  obtain ⟨rfl, ⟨hsz, hP, hK, hD0⟩, hZ⟩ := hv
  have hx := B.exec
  have hb := B.bytes
  have hr := B.returns
  have hts : ∀ w ∈ zAll, w.before _ s = true := fun w h => atoms_spec (ws := ws_L_make) B.pre w (List.mem_cons_of_mem _ h)
  have htab : c.exceptionTable.toList = tableOf [(0, 10, 13, 18)] := vx_table (x := y_L_make) B (atoms_spec (ws := ws_L_make) B.pre _ List.mem_cons_self)
  have hown : s.vm.findClass RL = some m.cls := findClass_of_methodNamed B.named
  have hlocks := B.notSynchronized
  subst hsz
  have hD := hD0.self (sz := s.heap.size)
  generalize hAe : va_A (wXO h0 h1 h2 o0 cA cB cO M S (nI nn) (nI pp) fo) s.heap.size = A at hD hZ ⊢
  have hA : ∀ q : Nat, s.heap.size ≤ q → A q := fun q h => by rw [← hAe]; exact Or.inr h
  have hS : va_S A s.heap s.heap [] := va_S.rf
  replace hP : va_P (dC, dI) vwCl [(h0, .inr (0, [.ref h1, .ref h2, .int (nI nn), .int (nI pp)])), (h1, .inl (cA, 512, .inl M)), (h2, .inl (cB, 512, .inl S)), (o0, .inl (cO, 1, .inr (.inl fo)))] s.heap := hP
  replace hD : va_D A [(h0, .inr (0, [.ref h1, .ref h2, .int (nI nn), .int (nI pp)])), (h1, .inl (cA, 512, .inl M)), (h2, .inl (cB, 512, .inl S)), (o0, .inl (cO, 1, .inr (.inl fo)))] := hD
  have hl := lv_entry ([.ref h0, .int x, .int z, .ref o0]) (n := 5) (Nat.le_of_ble_eq_true rfl)
  rw [lg_entry_eq]
  generalize (lg_sl ([.ref h0, .int x, .int z, .ref o0]) ++ List.replicate (5 - (lg_sl ([.ref h0, .int x, .int z, .ref o0])).length) Slot.unset).toArray = ls at hl ⊢
  replace hl : lv_has ls 5 [(0, .ref h0), (1, .int x), (2, .int z), (3, .ref o0)] := hl
  refine lv_aload_n hx hb d_L_make_0 rfl (lv_at hl 3 rfl) ?_
  refine lv_iconst (v := nI 0) hx hb d_L_make_1 (by decide) ?_
  refine lv_aload_n hx hb d_L_make_2 rfl (lv_at hl 0 rfl) ?_
  refine lv_iload_n hx hb d_L_make_3 rfl (lv_at hl 1 rfl) ?_
  refine lv_iload_n hx hb d_L_make_4 rfl (lv_at hl 2 rfl) ?_
  refine cx_Vi (wc := [(h0, .inr (0, [.ref h1, .ref h2, .int (nI nn), .int (nI pp)])), (h1, .inl (cA, 512, .inl M)), (h2, .inl (cB, 512, .inl S))]) (wr := [(o0, .inl (cO, 1, .inr (.inl fo)))]) (tys' := [(cA, .int), (cB, .int)]) ⟨hx, hb, hml, hown, hts⟩ hP hD hK hS hA hZ [0, 1, 2] [3] [0, 1] rfl rfl rfl (by decide) (by decide) (by decide) rfl (c_make l hlt dC dI h0 h1 h2 cA cB _ M S nn pp g0 x z) (cwV 2 hts g_L_23 rfl rfl rfl (by decide +kernel) ⟨Nat.le_of_ble_eq_true rfl, Nat.le_of_ble_eq_true rfl⟩) 0 0 rfl rfl rfl rfl hl.1 rfl (Nat.le_of_ble_eq_true rfl) d_L_make_5 ⟨Nat.le_of_ble_eq_true rfl, Nat.le_of_ble_eq_true rfl⟩ (fun ce q9 H locs hbad hP hD hS y1 y2 y3 => ?_) (fun r_9 u H locs hw hP hD hS => ?_)
  · replace hP : va_P (dC, dI) vwCl [(o0, .inl (cO, 1, .inr (.inl fo))), (h0, .inr (0, [.ref h1, .ref h2, .int (nI nn), .int (nI pp)])), (h1, .inl (cA, 512, .inl M)), (h2, .inl (cB, 512, .inl S))] H := hP
    replace hD : va_D A [(o0, .inl (cO, 1, .inr (.inl fo))), (h0, .inr (0, [.ref h1, .ref h2, .int (nI nn), .int (nI pp)])), (h1, .inl (cA, 512, .inl M)), (h2, .inl (cB, 512, .inl S))] := hD
    refine vx_catch (pc := 5) hown [] ⟨0, 10, 13, 18⟩ [] htab (fun z h => absurd h List.not_mem_nil) (by decide) (by decide) (hts _ wl_L_18) (va_Nw.use (zBad_on _ wzb_IOOBE) (hZ.2.1 _ wzb_IOOBE)) y1 y2 y3 ?_
    refine W.eq (g2 := F0 m 13 ls [.ref q9]) rfl ?_
    refine lv_astore (lv' := [(4, .ref q9), (0, .ref h0), (1, .int x), (2, .int z), (3, .ref o0)]) hx hb d_L_make_13 hl (by decide) rfl (fun ls hl => ?_)
    refine lv_iconst (v := nI 1) hx hb d_L_make_15 (by decide) ?_
    replace hP := hP.sub (ws' := [(h0, .inr (0, [.ref h1, .ref h2, .int (nI nn), .int (nI pp)])), (h1, .inl (cA, 512, .inl M)), (h2, .inl (cB, 512, .inl S)), (o0, .inl (cO, 1, .inr (.inl fo)))]) [1, 2, 3, 0] rfl
    replace hD := hD.sub (ws' := [(h0, .inr (0, [.ref h1, .ref h2, .int (nI nn), .int (nI pp)])), (h1, .inl (cA, 512, .inl M)), (h2, .inl (cB, 512, .inl S)), (o0, .inl (cO, 1, .inr (.inl fo)))]) [1, 2, 3, 0] (by decide) rfl
    refine W.widen (k := 2) (n := 12) (by decide) (by decide) ?_
    exact W.iret (v := nI 1) hx hb hr (fun t9 ht9 hW9 => ⟨⟨nI 1, ((nn, pp, M, S), fo), rfl, Or.inr ⟨rfl, hbad, rfl⟩, by rw [ht9]; exact hP, va_K.moved hW9.alike hK, hD⟩, hS.F ht9⟩) hS.2.2 d_L_make_16
  · replace hP : va_P (dC, dI) vwCl [(o0, .inl (cO, 1, .inr (.inl fo))), (h0, .inr (0, [.ref h1, .ref h2, .int (nI nn), .int (nI u.2.2)])), (h1, .inl (cA, 512, .inl u.1)), (h2, .inl (cB, 512, .inl u.2.1))] H := hP
    replace hD : va_D A [(o0, .inl (cO, 1, .inr (.inl fo))), (h0, .inr (0, [.ref h1, .ref h2, .int (nI nn), .int (nI u.2.2)])), (h1, .inl (cA, 512, .inl u.1)), (h2, .inl (cB, 512, .inl u.2.1))] := hD
    refine lv_i2l (v := r_9.toInt64) hx hb d_L_make_8 rfl ?_
    refine va_last hx hb hK hP hD hS 0 2 rfl rfl (vp_in_nI (by omega) (by decide)) d_L_make_9 (fun H locs hP hD hS => ?_)
    rw [nI_clamp (by omega)] at hP hD
    replace hP : va_P (dC, dI) vwCl [(o0, .inl (cO, 1, .inr (.inl (vp_updL fo 0 r_9.toInt64)))), (h0, .inr (0, [.ref h1, .ref h2, .int (nI nn), .int (nI u.2.2)])), (h1, .inl (cA, 512, .inl u.1)), (h2, .inl (cB, 512, .inl u.2.1))] H := hP
    replace hD : va_D A [(o0, .inl (cO, 1, .inr (.inl (vp_updL fo 0 r_9.toInt64)))), (h0, .inr (0, [.ref h1, .ref h2, .int (nI nn), .int (nI u.2.2)])), (h1, .inl (cA, 512, .inl u.1)), (h2, .inl (cB, 512, .inl u.2.1))] := hD
    refine lv_goto (tgt := 17) hx hb d_L_make_10 (by decide) ?_
    refine lv_iconst (v := nI 0) hx hb d_L_make_17 (by decide) ?_
    replace hP := hP.sub (ws' := [(h0, .inr (0, [.ref h1, .ref h2, .int (nI nn), .int (nI u.2.2)])), (h1, .inl (cA, 512, .inl u.1)), (h2, .inl (cB, 512, .inl u.2.1)), (o0, .inl (cO, 1, .inr (.inl (vp_updL fo 0 r_9.toInt64))))]) [1, 2, 3, 0] rfl
    replace hD := hD.sub (ws' := [(h0, .inr (0, [.ref h1, .ref h2, .int (nI nn), .int (nI u.2.2)])), (h1, .inl (cA, 512, .inl u.1)), (h2, .inl (cB, 512, .inl u.2.1)), (o0, .inl (cO, 1, .inr (.inl (vp_updL fo 0 r_9.toInt64))))]) [1, 2, 3, 0] (by decide) rfl
    refine W.widen (k := 2) (n := 12) (by decide) (by decide) ?_
    obtain ⟨a, b, k1, k2, k3, k4, k5, k6, k7⟩ := hw
    exact W.iret (v := nI 0) hx hb hr (fun t9 ht9 hW9 => ⟨⟨nI 0, ((nn, u.2.2, u.1, u.2.1), vp_updL fo 0 r_9.toInt64), rfl, Or.inl ⟨rfl, r_9, rfl, rfl, k6, a, b, k1, k2, k3, k4, k5, k7⟩, by rw [ht9]; exact hP, va_K.moved hW9.alike hK, hD⟩, hS.F ht9⟩) hS.2.2 d_L_make_18
set_option maxHeartbeats 4000000 in
set_option maxRecDepth 100000 in
/-- the law's own space -/
theorem cL_space (l : Launch) (hlt : l.stackTraces = false) (dC : Nat → ClassId) (dI : Nat → Nat → Nat) (h0 h1 h2 o0 : Nat) (cA cB cO : ClassId) (sz : Nat) (M S : Nat → Int32) (nn pp : Nat) (fo : Nat → Int64) (g0 : zCI nn pp M S) (x : Int32) : Met l y_L_space ws_L_space ({ frames := 7, cells := 1, slots := 6, locals := 112 }) (va_Pc [.ref h0, .int x, .ref o0] (cx_P (dC, dI) vwCl (wXO h0 h1 h2 o0 cA cB cO M S (nI nn) (nI pp) fo) (tXO cA cB cO) sz)) (va_Qi (S := (Nat × Nat × (Nat → Int32) × (Nat → Int32)) × (Nat → Int64)) (fun (r : Int32) (u : (Nat × Nat × (Nat → Int32) × (Nat → Int32)) × (Nat → Int64)) => (r = nI 0 ∧ ∃ rr : Int32, u.2 = vp_updL fo 0 rr.toInt64 ∧ x = nI u.1.1 ∧ 1 ≤ u.1.1 ∧ u.1.1 ≤ 16384 ∧ rr = nI nn ∧ u.1.2.1 = 1 ∧ zCI u.1.1 1 u.1.2.2.1 u.1.2.2.2 ∧ ∀ j, j < 16384 → zm u.1.2.2.1 j = decide (j = 0)) ∨ (r = nI 1 ∧ (¬ ∃ k, x = nI k ∧ 1 ≤ k ∧ k ≤ 16384) ∧ u = ((nn, pp, M, S), fo))) (fun u t => cc_B (dC, dI) vwCl (tXO cA cB cO) (va_A (wXO h0 h1 h2 o0 cA cB cO M S (nI nn) (nI pp) fo) sz) ((fun u : (Nat × Nat × (Nat → Int32) × (Nat → Int32)) × (Nat → Int64) => (wXO h0 h1 h2 o0 cA cB cO u.1.2.2.1 u.1.2.2.2 (nI u.1.1) (nI u.1.2.1) u.2)) u) t) (va_A (wXO h0 h1 h2 o0 cA cB cO M S (nI nn) (nI pp) fo) sz)) 1 6 (va_A (wXO h0 h1 h2 o0 cA cB cO M S (nI nn) (nI pp) fo) sz) := by
  refine va_MetW (cc := c_L_space) (maxL := 4) (ret := (some .int)) (hh := [(0, 9, 12, 13)]) (by decide) rfl ?_
  intro p e s m args below meth c s₁ B hml hv
  obtain ⟨rfl, ⟨hsz, hP, hK, hD0⟩, hZ⟩ := hv
  have hx := B.exec
  have hb := B.bytes
  have hr := B.returns
  have hts : ∀ w ∈ zAll, w.before _ s = true := fun w h => atoms_spec (ws := ws_L_space) B.pre w (List.mem_cons_of_mem _ h)
  have htab : c.exceptionTable.toList = tableOf [(0, 9, 12, 13)] := vx_table (x := y_L_space) B (atoms_spec (ws := ws_L_space) B.pre _ List.mem_cons_self)
  have hown : s.vm.findClass RL = some m.cls := findClass_of_methodNamed B.named
  have hlocks := B.notSynchronized
  subst hsz
  have hD := hD0.self (sz := s.heap.size)
  generalize hAe : va_A (wXO h0 h1 h2 o0 cA cB cO M S (nI nn) (nI pp) fo) s.heap.size = A at hD hZ ⊢
  have hA : ∀ q : Nat, s.heap.size ≤ q → A q := fun q h => by rw [← hAe]; exact Or.inr h
  have hS : va_S A s.heap s.heap [] := va_S.rf
  replace hP : va_P (dC, dI) vwCl [(h0, .inr (0, [.ref h1, .ref h2, .int (nI nn), .int (nI pp)])), (h1, .inl (cA, 512, .inl M)), (h2, .inl (cB, 512, .inl S)), (o0, .inl (cO, 1, .inr (.inl fo)))] s.heap := hP
  replace hD : va_D A [(h0, .inr (0, [.ref h1, .ref h2, .int (nI nn), .int (nI pp)])), (h1, .inl (cA, 512, .inl M)), (h2, .inl (cB, 512, .inl S)), (o0, .inl (cO, 1, .inr (.inl fo)))] := hD
  have hl := lv_entry ([.ref h0, .int x, .ref o0]) (n := 4) (Nat.le_of_ble_eq_true rfl)
  rw [lg_entry_eq]
  generalize (lg_sl ([.ref h0, .int x, .ref o0]) ++ List.replicate (4 - (lg_sl ([.ref h0, .int x, .ref o0])).length) Slot.unset).toArray = ls at hl ⊢
  replace hl : lv_has ls 4 [(0, .ref h0), (1, .int x), (2, .ref o0)] := hl
  refine lv_aload_n hx hb d_L_space_0 rfl (lv_at hl 2 rfl) ?_
  refine lv_iconst (v := nI 0) hx hb d_L_space_1 (by decide) ?_
  refine lv_aload_n hx hb d_L_space_2 rfl (lv_at hl 0 rfl) ?_
  refine lv_iload_n hx hb d_L_space_3 rfl (lv_at hl 1 rfl) ?_
  refine cx_Vi (wc := [(h0, .inr (0, [.ref h1, .ref h2, .int (nI nn), .int (nI pp)])), (h1, .inl (cA, 512, .inl M)), (h2, .inl (cB, 512, .inl S))]) (wr := [(o0, .inl (cO, 1, .inr (.inl fo)))]) (tys' := [(cA, .int), (cB, .int)]) ⟨hx, hb, hml, hown, hts⟩ hP hD hK hS hA hZ [0, 1, 2] [3] [0, 1] rfl rfl rfl (by decide) (by decide) (by decide) rfl (c_space l hlt dC dI h0 h1 h2 cA cB _ M S nn pp g0 x) (cwV 1 hts g_L_7 rfl rfl rfl (by decide +kernel) ⟨Nat.le_of_ble_eq_true rfl, Nat.le_of_ble_eq_true rfl⟩) 0 0 rfl rfl rfl rfl hl.1 rfl (Nat.le_of_ble_eq_true rfl) d_L_space_4 ⟨Nat.le_of_ble_eq_true rfl, Nat.le_of_ble_eq_true rfl⟩ (fun ce q9 H locs hbad hP hD hS y1 y2 y3 => ?_) (fun r_9 u H locs hw hP hD hS => ?_)
  · replace hP : va_P (dC, dI) vwCl [(o0, .inl (cO, 1, .inr (.inl fo))), (h0, .inr (0, [.ref h1, .ref h2, .int (nI nn), .int (nI pp)])), (h1, .inl (cA, 512, .inl M)), (h2, .inl (cB, 512, .inl S))] H := hP
    replace hD : va_D A [(o0, .inl (cO, 1, .inr (.inl fo))), (h0, .inr (0, [.ref h1, .ref h2, .int (nI nn), .int (nI pp)])), (h1, .inl (cA, 512, .inl M)), (h2, .inl (cB, 512, .inl S))] := hD
    refine vx_catch (pc := 4) hown [] ⟨0, 9, 12, 13⟩ [] htab (fun z h => absurd h List.not_mem_nil) (by decide) (by decide) (hts _ wl_L_13) (va_Nw.use (zBad_on _ wzb_IAE) (hZ.2.1 _ wzb_IAE)) y1 y2 y3 ?_
    refine W.eq (g2 := F0 m 12 ls [.ref q9]) rfl ?_
    refine lv_astore_n (lv' := [(3, .ref q9), (0, .ref h0), (1, .int x), (2, .ref o0)]) hx hb d_L_space_12 rfl hl (by decide) rfl (fun ls hl => ?_)
    refine lv_iconst (v := nI 1) hx hb d_L_space_13 (by decide) ?_
    replace hP := hP.sub (ws' := [(h0, .inr (0, [.ref h1, .ref h2, .int (nI nn), .int (nI pp)])), (h1, .inl (cA, 512, .inl M)), (h2, .inl (cB, 512, .inl S)), (o0, .inl (cO, 1, .inr (.inl fo)))]) [1, 2, 3, 0] rfl
    replace hD := hD.sub (ws' := [(h0, .inr (0, [.ref h1, .ref h2, .int (nI nn), .int (nI pp)])), (h1, .inl (cA, 512, .inl M)), (h2, .inl (cB, 512, .inl S)), (o0, .inl (cO, 1, .inr (.inl fo)))]) [1, 2, 3, 0] (by decide) rfl
    refine W.widen (k := 1) (n := 6) (by decide) (by decide) ?_
    exact W.iret (v := nI 1) hx hb hr (fun t9 ht9 hW9 => ⟨⟨nI 1, ((nn, pp, M, S), fo), rfl, Or.inr ⟨rfl, hbad, rfl⟩, by rw [ht9]; exact hP, va_K.moved hW9.alike hK, hD⟩, hS.F ht9⟩) hS.2.2 d_L_space_14
  · replace hP : va_P (dC, dI) vwCl [(o0, .inl (cO, 1, .inr (.inl fo))), (h0, .inr (0, [.ref h1, .ref h2, .int (nI u.1), .int (nI 1)])), (h1, .inl (cA, 512, .inl u.2.1)), (h2, .inl (cB, 512, .inl u.2.2))] H := hP
    replace hD : va_D A [(o0, .inl (cO, 1, .inr (.inl fo))), (h0, .inr (0, [.ref h1, .ref h2, .int (nI u.1), .int (nI 1)])), (h1, .inl (cA, 512, .inl u.2.1)), (h2, .inl (cB, 512, .inl u.2.2))] := hD
    refine lv_i2l (v := r_9.toInt64) hx hb d_L_space_7 rfl ?_
    refine va_last hx hb hK hP hD hS 0 2 rfl rfl (vp_in_nI (by omega) (by decide)) d_L_space_8 (fun H locs hP hD hS => ?_)
    rw [nI_clamp (by omega)] at hP hD
    replace hP : va_P (dC, dI) vwCl [(o0, .inl (cO, 1, .inr (.inl (vp_updL fo 0 r_9.toInt64)))), (h0, .inr (0, [.ref h1, .ref h2, .int (nI u.1), .int (nI 1)])), (h1, .inl (cA, 512, .inl u.2.1)), (h2, .inl (cB, 512, .inl u.2.2))] H := hP
    replace hD : va_D A [(o0, .inl (cO, 1, .inr (.inl (vp_updL fo 0 r_9.toInt64)))), (h0, .inr (0, [.ref h1, .ref h2, .int (nI u.1), .int (nI 1)])), (h1, .inl (cA, 512, .inl u.2.1)), (h2, .inl (cB, 512, .inl u.2.2))] := hD
    refine lv_goto (tgt := 15) hx hb d_L_space_9 (by decide) ?_
    refine lv_iconst (v := nI 0) hx hb d_L_space_15 (by decide) ?_
    replace hP := hP.sub (ws' := [(h0, .inr (0, [.ref h1, .ref h2, .int (nI u.1), .int (nI 1)])), (h1, .inl (cA, 512, .inl u.2.1)), (h2, .inl (cB, 512, .inl u.2.2)), (o0, .inl (cO, 1, .inr (.inl (vp_updL fo 0 r_9.toInt64))))]) [1, 2, 3, 0] rfl
    replace hD := hD.sub (ws' := [(h0, .inr (0, [.ref h1, .ref h2, .int (nI u.1), .int (nI 1)])), (h1, .inl (cA, 512, .inl u.2.1)), (h2, .inl (cB, 512, .inl u.2.2)), (o0, .inl (cO, 1, .inr (.inl (vp_updL fo 0 r_9.toInt64))))]) [1, 2, 3, 0] (by decide) rfl
    refine W.widen (k := 1) (n := 6) (by decide) (by decide) ?_
    obtain ⟨k1, k2, k3, k4, k5, k6⟩ := hw
    exact W.iret (v := nI 0) hx hb hr (fun t9 ht9 hW9 => ⟨⟨nI 0, ((u.1, 1, u.2.1, u.2.2), vp_updL fo 0 r_9.toInt64), rfl, Or.inl ⟨rfl, r_9, rfl, k1, k2, k3, k4, rfl, k5, k6⟩, by rw [ht9]; exact hP, va_K.moved hW9.alike hK, hD⟩, hS.F ht9⟩) hS.2.2 d_L_space_16
end
section
/-! THE TIE: class and reference hold the same row, and answer alike -/
def zR (n : Nat) (B G : Nat → Bool) : Prop := (∀ j, j < n → G j = B j) ∧ G n = true
abbrev zTT : Type := (Nat × Nat × (Nat → Int32) × (Nat → Int32)) × (Nat → Int64)
def zTie (n : Nat) (u : zTT) (b : Bool) (G : Nat → Bool) (kv r : Int32) : Prop := zCI n u.1.2.1 u.1.2.2.1 u.1.2.2.2 ∧ u.1.1 = n ∧ zR n (zm u.1.2.2.1) G ∧ ((kv = nI 0 ∧ b = true ∧ u.2 0 = r.toInt64) ∨ (kv = nI 1 ∧ b = false))
theorem zTie_ro {nn pp : Nat} {M S : Nat → Int32} {G G2 : Nat → Bool} {fo : Nat → Int64} {u : zTT} {b : Bool} {kv r : Int32} {P : Int32 → Prop} {Qm Bad : Prop} (g0 : zCI nn pp M S) (gR : zR nn (zm M) G)
    (hc : (kv = nI 0 ∧ ∃ rr : Int32, u.2 = vp_updL fo 0 rr.toInt64 ∧ u.1 = (nn, pp, M, S) ∧ P rr) ∨ (kv = nI 1 ∧ Bad ∧ u = ((nn, pp, M, S), fo)))
    (hm : (b = true ∧ Qm) ∨ (b = false ∧ Bad ∧ G2 = G)) (hQ : Qm → G2 = G ∧ (∀ rr, P rr → rr = r) ∧ ¬ Bad) (hP : ∀ rr, P rr → ¬ Bad) : zTie nn u b G2 kv r := by
  rcases hc with ⟨h1, rr, h2, h3, h4⟩ | ⟨h1, h2, h3⟩
  · rcases hm with ⟨m1, m2⟩ | ⟨m1, m2, m3⟩
    · obtain ⟨q1, q2, q3⟩ := hQ m2
      refine ⟨by rw [h3]; exact g0, by rw [h3], by rw [h3, q1]; exact gR, Or.inl ⟨h1, m1, ?_⟩⟩
      rw [h2, pk_uLs, q2 rr h4]
    · exact absurd m2 (hP rr h4)
  · rcases hm with ⟨m1, m2⟩ | ⟨m1, m2, m3⟩
    · exact absurd h2 (hQ m2).2.2
    · exact ⟨by rw [h3]; exact g0, by rw [h3], by rw [h3, m3]; exact gR, Or.inr ⟨h1, m1⟩⟩
theorem zn_congr2 {B C : Nat → Bool} {n k : Nat} (h : ∀ j, j < n → B j = C j) : zn B n k = zn C n k := by
  rcases Nat.lt_or_ge n k with q | q
  · unfold zn
    rw [show n - k = 0 by omega]
    rfl
  · exact zn_congr q (fun j _ hj => h j hj)
theorem zF_congr {g : Nat → Nat → Nat} {B C : Nat → Bool} {n : Nat} (h : ∀ j, j < n → B j = C j) : ∀ f k a, zF g B n f k a = zF g C n f k a := by
  intro f
  induction f with
  | zero => intro k a; rfl
  | succ f ih =>
    intro k a
    show zF g B n f (zn B n (k + 1)) (g a (zn B n (k + 1) - k)) = zF g C n f (zn C n (k + 1)) (g a (zn C n (k + 1) - k))
    rw [zn_congr2 h, ih]
theorem z_kk {n k k' : Nat} {x : Int32} (hn : n ≤ 16384) (h1 : k < n) (h2 : x = nI k) (h3 : k' < n) (h4 : x = nI k') : k = k' := (nI_eq (by omega) (by omega)).mp (h2.symm.trans h4)
section TIE
variable {nn pp : Nat} {M S : Nat → Int32} {G G2 : Nat → Bool} {fo : Nat → Int64} {u : zTT} {b : Bool} {kv r x z : Int32}
theorem tie_begin (g0 : zCI nn pp M S) (gR : zR nn (zm M) G)
    (hc : (kv = nI 0 ∧ ∃ rr : Int32, u.2 = vp_updL fo 0 rr.toInt64 ∧ u.1 = (nn, pp, M, S) ∧ ∃ k, k < nn ∧ x = nI k ∧ rr = nI (zb (zm M) k)) ∨ (kv = nI 1 ∧ (¬ ∃ k, k < nn ∧ x = nI k) ∧ u = ((nn, pp, M, S), fo)))
    (hm : (b = true ∧ ∃ k, k < nn ∧ x = nI k ∧ r = nI (zb G k) ∧ G2 = G) ∨ (b = false ∧ (¬ ∃ k, k < nn ∧ x = nI k) ∧ G2 = G)) : zTie nn u b G2 kv r := by
  refine zTie_ro g0 gR hc hm (fun ⟨k, k1, k2, k3, k4⟩ => ⟨k4, fun rr ⟨k', q1, q2, q3⟩ => ?_, fun hb => hb ⟨k, k1, k2⟩⟩) (fun rr ⟨k, k1, k2, _⟩ hb => hb ⟨k, k1, k2⟩)
  have e := z_kk g0.2.1 k1 k2 q1 q2
  subst e
  rw [q3, k3, zb_congr (B := G) (C := zm M) (fun j hj => gR.1 j (by omega))]
theorem tie_size (g0 : zCI nn pp M S) (gR : zR nn (zm M) G)
    (hc : (kv = nI 0 ∧ ∃ rr : Int32, u.2 = vp_updL fo 0 rr.toInt64 ∧ u.1 = (nn, pp, M, S) ∧ ∃ k, k < nn ∧ x = nI k ∧ rr = nI (zn (zm M) nn (k + 1) - zb (zm M) k)) ∨ (kv = nI 1 ∧ (¬ ∃ k, k < nn ∧ x = nI k) ∧ u = ((nn, pp, M, S), fo)))
    (hm : (b = true ∧ ∃ k, k < nn ∧ x = nI k ∧ r = nI (zn G nn (k + 1) - zb G k) ∧ G2 = G) ∨ (b = false ∧ (¬ ∃ k, k < nn ∧ x = nI k) ∧ G2 = G)) : zTie nn u b G2 kv r := by
  refine zTie_ro g0 gR hc hm (fun ⟨k, k1, k2, k3, k4⟩ => ⟨k4, fun rr ⟨k', q1, q2, q3⟩ => ?_, fun hb => hb ⟨k, k1, k2⟩⟩) (fun rr ⟨k, k1, k2, _⟩ hb => hb ⟨k, k1, k2⟩)
  have e := z_kk g0.2.1 k1 k2 q1 q2
  subst e
  rw [q3, k3, zb_congr (B := G) (C := zm M) (fun j hj => gR.1 j (by omega)), zn_congr2 (B := G) (C := zm M) gR.1]
theorem tie_start (g0 : zCI nn pp M S) (gR : zR nn (zm M) G)
    (hc : (kv = nI 0 ∧ ∃ rr : Int32, u.2 = vp_updL fo 0 rr.toInt64 ∧ u.1 = (nn, pp, M, S) ∧ ∃ k, k < (nn + 31) / 32 ∧ x = nI k ∧ rr = nI (zb (zm M) (32 * k))) ∨ (kv = nI 1 ∧ (¬ ∃ k, k < (nn + 31) / 32 ∧ x = nI k) ∧ u = ((nn, pp, M, S), fo)))
    (hm : (b = true ∧ ∃ k, k < (nn + 31) / 32 ∧ x = nI k ∧ r = nI (zb G (32 * k)) ∧ G2 = G) ∨ (b = false ∧ (¬ ∃ k, k < (nn + 31) / 32 ∧ x = nI k) ∧ G2 = G)) : zTie nn u b G2 kv r := by
  have hn := g0.2.1
  refine zTie_ro g0 gR hc hm (fun ⟨k, k1, k2, k3, k4⟩ => ⟨k4, fun rr ⟨k', q1, q2, q3⟩ => ?_, fun hb => hb ⟨k, k1, k2⟩⟩) (fun rr ⟨k, k1, k2, _⟩ hb => hb ⟨k, k1, k2⟩)
  have e := z_kk (n := (nn + 31) / 32) (by omega) k1 k2 q1 q2
  subst e
  rw [q3, k3, zb_congr (B := G) (C := zm M) (fun j hj => gR.1 j (by omega))]
theorem tie_begins (g0 : zCI nn pp M S) (gR : zR nn (zm M) G)
    (hc : (kv = nI 0 ∧ ∃ rr : Int32, u.2 = vp_updL fo 0 rr.toInt64 ∧ u.1 = (nn, pp, M, S) ∧ ∃ k, k < (nn + 31) / 32 ∧ x = nI k ∧ rr = nI (zc (bt (M k)) 32)) ∨ (kv = nI 1 ∧ (¬ ∃ k, k < (nn + 31) / 32 ∧ x = nI k) ∧ u = ((nn, pp, M, S), fo)))
    (hm : (b = true ∧ ∃ k, k < (nn + 31) / 32 ∧ x = nI k ∧ r = nI (zc (fun j => G (32 * k + j)) (min 32 (nn - 32 * k))) ∧ G2 = G) ∨ (b = false ∧ (¬ ∃ k, k < (nn + 31) / 32 ∧ x = nI k) ∧ G2 = G)) : zTie nn u b G2 kv r := by
  have hn := g0.2.1
  refine zTie_ro g0 gR hc hm (fun ⟨k, k1, k2, k3, k4⟩ => ⟨k4, fun rr ⟨k', q1, q2, q3⟩ => ?_, fun hb => hb ⟨k, k1, k2⟩⟩) (fun rr ⟨k, k1, k2, _⟩ hb => hb ⟨k, k1, k2⟩)
  have e := z_kk (n := (nn + 31) / 32) (by omega) k1 k2 q1 q2
  subst e
  rw [q3, k3]
  congr 1
  rw [zc_congr (B := bt (M k)) (C := fun j => zm M (32 * k + j)) (n := 32) (fun j hj => (zm_at M hj).symm)]
  rw [zc_0 (B := fun j => zm M (32 * k + j)) (a := min 32 (nn - 32 * k)) (b := 32) (by omega) (fun j h1 h2 => g0.2.2.2.1 (32 * k + j) (by omega) (by omega))]
  exact zc_congr (fun j hj => (gR.1 (32 * k + j) (by omega)).symm)
theorem tie_count (g0 : zCI nn pp M S) (gR : zR nn (zm M) G)
    (hc : (kv = nI 0 ∧ ∃ rr : Int32, u.2 = vp_updL fo 0 rr.toInt64 ∧ u.1 = (nn, pp, M, S) ∧ ((x = nI 0 ∧ rr = nI (nn)) ∨ (x = nI 1 ∧ rr = nI ((nn + 31) / 32)) ∨ (x = nI 2 ∧ rr = nI (pp)) ∨ (x = nI 3 ∧ rr = nI (zF max (zm M) nn (pp - 1) (zn (zm M) nn 1) (zn (zm M) nn 1))) ∨ (x = nI 4 ∧ rr = nI (zF min (zm M) nn (pp - 1) (zn (zm M) nn 1) (zn (zm M) nn 1))))) ∨ (kv = nI 1 ∧ (¬ (x = nI 0 ∨ x = nI 1 ∨ x = nI 2 ∨ x = nI 3 ∨ x = nI 4)) ∧ u = ((nn, pp, M, S), fo)))
    (hm : (b = true ∧ ((x = nI 0 ∧ r = nI (nn)) ∨ (x = nI 1 ∧ r = nI ((nn + 31) / 32)) ∨ (x = nI 2 ∧ r = nI (zc G nn)) ∨ (x = nI 3 ∧ r = nI (zF max G nn (zc G nn) 0 0)) ∨ (x = nI 4 ∧ r = nI (zF min G nn (zc G nn) 0 16384))) ∧ G2 = G) ∨ (b = false ∧ (¬ (x = nI 0 ∨ x = nI 1 ∨ x = nI 2 ∨ x = nI 3 ∨ x = nI 4)) ∧ G2 = G)) : zTie nn u b G2 kv r := by
  obtain ⟨i1, i2, i3, i4, i5, i6⟩ := id g0
  have ez : zc G nn = pp := by rw [i5]; exact zc_congr gR.1
  have hp1 : 1 ≤ pp := by rw [i5]; exact zc_pos (show 0 < nn by omega) i3
  have ey : zn (zm M) nn 1 ≤ nn := zn_le (by omega)
  have emx : zF max G nn (zc G nn) 0 0 = zF max (zm M) nn (pp - 1) (zn (zm M) nn 1) (zn (zm M) nn 1) := by
    rw [ez, zF_congr (B := G) (C := zm M) gR.1]
    conv => lhs; rw [show pp = (pp - 1) + 1 by omega]
    show zF max (zm M) nn (pp - 1) (zn (zm M) nn (0 + 1)) (max 0 (zn (zm M) nn (0 + 1) - 0)) = _
    rw [show max 0 (zn (zm M) nn (0 + 1) - 0) = zn (zm M) nn 1 from Nat.zero_max _]
  have emn : zF min G nn (zc G nn) 0 16384 = zF min (zm M) nn (pp - 1) (zn (zm M) nn 1) (zn (zm M) nn 1) := by
    rw [ez, zF_congr (B := G) (C := zm M) gR.1]
    conv => lhs; rw [show pp = (pp - 1) + 1 by omega]
    show zF min (zm M) nn (pp - 1) (zn (zm M) nn (0 + 1)) (min 16384 (zn (zm M) nn (0 + 1) - 0)) = _
    rw [show min 16384 (zn (zm M) nn (0 + 1) - 0) = zn (zm M) nn 1 from Nat.min_eq_right (show zn (zm M) nn 1 ≤ 16384 by omega)]
  have ne : ∀ i j : Nat, i < 5 → j < 5 → x = nI i → x = nI j → i = j := fun i j hi hj a c => (nI_eq (by omega) (by omega)).mp (a.symm.trans c)
  refine zTie_ro (Qm := _ ∧ _) g0 gR hc hm (fun ⟨hq, k4⟩ => ⟨k4, fun rr hp => ?_, fun hb => hb ?_⟩) (fun rr hp hb => hb ?_)
  · rw [ez] at hq
    rw [← ez, emx, emn, ez] at hq
    rcases hp with ⟨a1, a2⟩ | ⟨a1, a2⟩ | ⟨a1, a2⟩ | ⟨a1, a2⟩ | ⟨a1, a2⟩ <;> rcases hq with ⟨c1, c2⟩ | ⟨c1, c2⟩ | ⟨c1, c2⟩ | ⟨c1, c2⟩ | ⟨c1, c2⟩ <;> first | exact absurd (ne _ _ (by decide) (by decide) a1 c1) (by decide) | rw [a2, c2]
  · rcases hq with ⟨c1, c2⟩ | ⟨c1, c2⟩ | ⟨c1, c2⟩ | ⟨c1, c2⟩ | ⟨c1, c2⟩
    · exact Or.inl c1
    · exact Or.inr (Or.inl c1)
    · exact Or.inr (Or.inr (Or.inl c1))
    · exact Or.inr (Or.inr (Or.inr (Or.inl c1)))
    · exact Or.inr (Or.inr (Or.inr (Or.inr c1)))
  · rcases hp with ⟨c1, c2⟩ | ⟨c1, c2⟩ | ⟨c1, c2⟩ | ⟨c1, c2⟩ | ⟨c1, c2⟩
    · exact Or.inl c1
    · exact Or.inr (Or.inl c1)
    · exact Or.inr (Or.inr (Or.inl c1))
    · exact Or.inr (Or.inr (Or.inr (Or.inl c1)))
    · exact Or.inr (Or.inr (Or.inr (Or.inr c1)))
theorem tie_cut (g0 : zCI nn pp M S) (gR : zR nn (zm M) G)
    (hc : (kv = nI 0 ∧ ∃ rr : Int32, u.2 = vp_updL fo 0 rr.toInt64 ∧ u.1.1 = nn ∧ zCI nn u.1.2.1 u.1.2.2.1 u.1.2.2.2 ∧ ∃ k, k < nn ∧ x = nI k ∧ rr = nI (k - zb (zm M) k) ∧ ∀ j, zm u.1.2.2.1 j = (zm M j || decide (j = k))) ∨ (kv = nI 1 ∧ (¬ ∃ k, k < nn ∧ x = nI k) ∧ u = ((nn, pp, M, S), fo)))
    (hm : (b = true ∧ ∃ k, k < nn ∧ x = nI k ∧ r = nI (k - zb G k) ∧ G2 = upG G k true) ∨ (b = false ∧ (¬ ∃ k, k < nn ∧ x = nI k) ∧ G2 = G)) : zTie nn u b G2 kv r := by
  rcases hc with ⟨h1, rr, h2, h3, h4, k, k1, k2, k3, k5⟩ | ⟨h1, h2, h3⟩
  · rcases hm with ⟨m1, k', q1, q2, q3, q4⟩ | ⟨m1, m2, m3⟩
    · have e := z_kk g0.2.1 k1 k2 q1 q2
      subst e
      refine ⟨h4, h3, ⟨fun j hj => ?_, ?_⟩, Or.inl ⟨h1, m1, ?_⟩⟩
      · rw [q4, k5]
        by_cases z : j = k
        · rw [z, upG_eq, decide_eq_true rfl, Bool.or_true]
        · rw [upG_ne z, gR.1 j hj, decide_eq_false z, Bool.or_false]
      · rw [q4, upG_ne (by omega)]; exact gR.2
      · rw [h2, pk_uLs, k3, q3, zb_congr (B := G) (C := zm M) (fun j hj => gR.1 j (by omega))]
    · exact absurd ⟨k, k1, k2⟩ m2
  · rcases hm with ⟨m1, k', q1, q2, q3, q4⟩ | ⟨m1, m2, m3⟩
    · exact absurd ⟨k', q1, q2⟩ h2
    · exact ⟨by rw [h3]; exact g0, by rw [h3], by rw [h3, m3]; exact gR, Or.inr ⟨h1, m1⟩⟩
theorem z_skip {B : Nat → Bool} {n k : Nat} (hk : k < n) (he : zn B n (k + 1) < n) : zn (upG B (zn B n (k + 1)) false) n (k + 1) = zn B n (zn B n (k + 1) + 1) ∧ zb (upG B (zn B n (k + 1)) false) k = zb B k := by
  have a1 := zn_ge B n (k + 1)
  have a2 := zn_ge B n (zn B n (k + 1) + 1)
  have a3 : zn B n (zn B n (k + 1) + 1) ≤ n := zn_le (by omega)
  refine ⟨zn_uniq (by omega) a3 ?_ (fun j h1 h2 => ?_), zb_congr (fun j hj => upG_ne (by omega))⟩
  · rcases z_nxo (B := B) (n := n) (k := zn B n (k + 1) + 1) (by omega) with q | q
    · exact Or.inl q
    · exact Or.inr (by rw [upG_ne (by omega)]; exact q)
  · by_cases q : j = zn B n (k + 1)
    · rw [q, upG_eq]
    · rw [upG_ne q]
      rcases Nat.lt_or_ge j (zn B n (k + 1)) with w | w
      · exact zn_off j h1 w
      · exact zn_off (k := zn B n (k + 1) + 1) j (by omega) h2
theorem tie_join (g0 : zCI nn pp M S) (gR : zR nn (zm M) G)
    (hc : (kv = nI 0 ∧ ∃ rr : Int32, u.2 = vp_updL fo 0 rr.toInt64 ∧ u.1.1 = nn ∧ zCI nn u.1.2.1 u.1.2.2.1 u.1.2.2.2 ∧ ∃ k, k < nn ∧ x = nI k ∧ rr = nI (if zn (zm M) nn (k + 1) < nn then zn (zm M) nn (zn (zm M) nn (k + 1) + 1) - zb (zm M) k else 0) ∧ ∀ j, j < 16384 → zm u.1.2.2.1 j = (zm M j && !decide (j = zn (zm M) nn (k + 1)))) ∨ (kv = nI 1 ∧ (¬ ∃ k, k < nn ∧ x = nI k) ∧ u = ((nn, pp, M, S), fo)))
    (hm : (b = true ∧ ∃ k, k < nn ∧ x = nI k ∧ ((zn G nn (k + 1) = nn ∧ r = nI 0 ∧ G2 = G) ∨ (zn G nn (k + 1) < nn ∧ r = nI (zn (upG G (zn G nn (k + 1)) false) nn (k + 1) - zb (upG G (zn G nn (k + 1)) false) k) ∧ G2 = upG G (zn G nn (k + 1)) false))) ∨ (b = false ∧ (¬ ∃ k, k < nn ∧ x = nI k) ∧ G2 = G)) : zTie nn u b G2 kv r := by
  have hn := g0.2.1
  rcases hc with ⟨h1, rr, h2, h3, h4, k, k1, k2, k3, k5⟩ | ⟨h1, h2, h3⟩
  · rcases hm with ⟨m1, k', q1, q2, q3⟩ | ⟨m1, m2, m3⟩
    · have e := z_kk g0.2.1 k1 k2 q1 q2
      subst e
      have ee : zn G nn (k + 1) = zn (zm M) nn (k + 1) := zn_congr2 gR.1
      rcases q3 with ⟨q4, q5, q6⟩ | ⟨q4, q5, q6⟩
      · refine ⟨h4, h3, ⟨fun j hj => ?_, by rw [q6]; exact gR.2⟩, Or.inl ⟨h1, m1, ?_⟩⟩
        · rw [q6, k5 j (by omega), decide_eq_false (by omega), Bool.not_false, Bool.and_true]
          exact gR.1 j hj
        · rw [h2, pk_uLs, k3, q5, if_neg (by omega)]
      · obtain ⟨s1, s2⟩ := z_skip k1 q4
        refine ⟨h4, h3, ⟨fun j hj => ?_, ?_⟩, Or.inl ⟨h1, m1, ?_⟩⟩
        · rw [q6, k5 j (by omega), ee]
          by_cases w : j = zn (zm M) nn (k + 1)
          · rw [w, upG_eq, decide_eq_true rfl, Bool.not_true, Bool.and_false]
          · rw [upG_ne w, decide_eq_false w, Bool.not_false, Bool.and_true]; exact gR.1 j hj
        · rw [q6, upG_ne (by omega)]; exact gR.2
        · rw [h2, pk_uLs, k3, q5, s1, s2, ee, if_pos (by omega), zn_congr2 (B := G) (C := zm M) gR.1, zb_congr (B := G) (C := zm M) (fun j hj => gR.1 j (by omega))]
    · exact absurd ⟨k, k1, k2⟩ m2
  · rcases hm with ⟨m1, k', q1, q2, q3⟩ | ⟨m1, m2, m3⟩
    · exact absurd ⟨k', q1, q2⟩ h2
    · exact ⟨by rw [h3]; exact g0, by rw [h3], by rw [h3, m3]; exact gR, Or.inr ⟨h1, m1⟩⟩
theorem tie_make (g0 : zCI nn pp M S) (gR : zR nn (zm M) G)
    (hc : (kv = nI 0 ∧ ∃ rr : Int32, u.2 = vp_updL fo 0 rr.toInt64 ∧ u.1.1 = nn ∧ zCI nn u.1.2.1 u.1.2.2.1 u.1.2.2.2 ∧ ∃ a b, x = nI a ∧ z = nI b ∧ a < b ∧ b ≤ nn ∧ rr = nI u.1.2.1 ∧ ∀ j, j < 16384 → zm u.1.2.2.1 j = ((zm M j || decide (j = a) || (decide (j = b) && decide (b < nn))) && !decide (a < j ∧ j < b))) ∨ (kv = nI 1 ∧ (¬ ∃ a b, x = nI a ∧ z = nI b ∧ a < b ∧ b ≤ nn) ∧ u = ((nn, pp, M, S), fo)))
    (hm : (b = true ∧ ∃ a b, x = nI a ∧ z = nI b ∧ a < b ∧ b ≤ nn ∧ G2 = (fun j => if a ≤ j ∧ j ≤ b then decide (j = a ∨ j = b) else G j) ∧ r = nI (zc G2 nn)) ∨ (b = false ∧ (¬ ∃ a b, x = nI a ∧ z = nI b ∧ a < b ∧ b ≤ nn) ∧ G2 = G)) : zTie nn u b G2 kv r := by
  have hn := g0.2.1
  rcases hc with ⟨h1, rr, h2, h3, h4, a, c, k1, k2, k3, k4, k5, k6⟩ | ⟨h1, h2, h3⟩
  · rcases hm with ⟨m1, a', c', q1, q2, q3, q4, q5, q6⟩ | ⟨m1, m2, m3⟩
    · have e1 : a = a' := (nI_eq (by omega) (by omega)).mp (k1.symm.trans q1)
      have e2 : c = c' := (nI_eq (by omega) (by omega)).mp (k2.symm.trans q2)
      subst e1
      subst e2
      have key : ∀ j, j < nn → G2 j = zm u.1.2.2.1 j := by
        intro j hj
        rw [q5, k6 j (by omega)]
        show (if a ≤ j ∧ j ≤ c then decide (j = a ∨ j = c) else G j) = _
        rw [← gR.1 j hj]
        by_cases w : a ≤ j ∧ j ≤ c
        · rw [if_pos w]
          by_cases w1 : j = a
          · rw [decide_eq_true (Or.inl w1), decide_eq_true w1, decide_eq_false (show ¬ (a < j ∧ j < c) by omega)]; simp
          · by_cases w2 : j = c
            · rw [decide_eq_true (Or.inr w2), decide_eq_true w2, decide_eq_true (show c < nn by omega), decide_eq_false (show ¬ (a < j ∧ j < c) by omega)]; simp
            · rw [decide_eq_false (show ¬ (j = a ∨ j = c) by omega), decide_eq_true (show a < j ∧ j < c by omega)]; simp
        · rw [if_neg w, decide_eq_false (show ¬ j = a by omega), decide_eq_false (show ¬ j = c by omega), decide_eq_false (show ¬ (a < j ∧ j < c) by omega)]; simp
      refine ⟨h4, h3, ⟨key, ?_⟩, Or.inl ⟨h1, m1, ?_⟩⟩
      · rw [q5]
        show (if a ≤ nn ∧ nn ≤ c then decide (nn = a ∨ nn = c) else G nn) = true
        by_cases w : a ≤ nn ∧ nn ≤ c
        · rw [if_pos w, decide_eq_true (by omega)]
        · rw [if_neg w]; exact gR.2
      · rw [h2, pk_uLs, k5, q6, h4.2.2.2.2.1, zc_congr key]
    · exact absurd ⟨a, c, k1, k2, k3, k4⟩ m2
  · rcases hm with ⟨m1, a', c', q1, q2, q3, q4, q5, q6⟩ | ⟨m1, m2, m3⟩
    · exact absurd ⟨a', c', q1, q2, q3, q4⟩ h2
    · exact ⟨by rw [h3]; exact g0, by rw [h3], by rw [h3, m3]; exact gR, Or.inr ⟨h1, m1⟩⟩
theorem tie_space {n2 : Nat} (g0 : zCI nn pp M S) (gR : zR nn (zm M) G)
    (hc : (kv = nI 0 ∧ ∃ rr : Int32, u.2 = vp_updL fo 0 rr.toInt64 ∧ x = nI u.1.1 ∧ 1 ≤ u.1.1 ∧ u.1.1 ≤ 16384 ∧ rr = nI nn ∧ u.1.2.1 = 1 ∧ zCI u.1.1 1 u.1.2.2.1 u.1.2.2.2 ∧ ∀ j, j < 16384 → zm u.1.2.2.1 j = decide (j = 0)) ∨ (kv = nI 1 ∧ (¬ ∃ k, x = nI k ∧ 1 ≤ k ∧ k ≤ 16384) ∧ u = ((nn, pp, M, S), fo)))
    (hm : (b = true ∧ x = nI n2 ∧ 1 ≤ n2 ∧ n2 ≤ 16384 ∧ r = nI nn ∧ ∀ j, j < 16385 → G2 j = decide (j = 0 ∨ j = n2)) ∨ (b = false ∧ (¬ ∃ k, x = nI k ∧ 1 ≤ k ∧ k ≤ 16384) ∧ n2 = nn ∧ G2 = G)) : zTie n2 u b G2 kv r := by
  rcases hc with ⟨h1, rr, h2, h3, h4, h5, h6, h7, h8, h9⟩ | ⟨h1, h2, h3⟩
  · rcases hm with ⟨m1, m2, m3, m4, m5, m6⟩ | ⟨m1, m2, m3⟩
    · have e : u.1.1 = n2 := (nI_eq (by omega) (by omega)).mp (h3.symm.trans m2)
      refine ⟨by rw [← e, h7]; exact h8, e, ⟨fun j hj => ?_, ?_⟩, Or.inl ⟨h1, m1, ?_⟩⟩
      · rw [m6 j (by omega), h9 j (by omega)]
        exact decide_eq_decide.mpr ⟨fun q => by omega, fun q => by omega⟩
      · rw [m6 n2 (by omega), decide_eq_true (Or.inr rfl)]
      · rw [h2, pk_uLs, h6, m5]
    · exact absurd ⟨_, h3, h4, h5⟩ m2
  · rcases hm with ⟨m1, m2, m3, m4, m5, m6⟩ | ⟨m1, m2, m3, m4⟩
    · exact absurd ⟨_, m2, m3, m4⟩ h2
    · subst m3
      exact ⟨by rw [h3]; exact g0, by rw [h3], by rw [h3, m4]; exact gR, Or.inr ⟨h1, m1⟩⟩
end TIE
theorem z_cmp (x : Int64) : lg_cmp x x = 0 := by
  unfold lg_cmp
  have h : ¬ x > x := by
    show ¬ x < x
    rw [Int64.lt_iff_toInt_lt]
    omega
  rw [if_neg h, if_pos rfl]
end
section
theorem d_L_law_0 : decode c_L_law 0 = .ok (.new 8, 3) := by decide +kernel
theorem d_L_law_3 : decode c_L_law 3 = .ok (.dup, 1) := by decide +kernel
theorem d_L_law_4 : decode c_L_law 4 = .ok (.invokespecial 42, 3) := by decide +kernel
theorem d_L_law_7 : decode c_L_law 7 = .ok (.astore_n 1, 1) := by decide +kernel
theorem d_L_law_8 : decode c_L_law 8 = .ok (.new 43, 3) := by decide +kernel
theorem d_L_law_11 : decode c_L_law 11 = .ok (.dup, 1) := by decide +kernel
theorem d_L_law_12 : decode c_L_law 12 = .ok (.invokespecial 45, 3) := by decide +kernel
theorem d_L_law_15 : decode c_L_law 15 = .ok (.astore_n 2, 1) := by decide +kernel
theorem d_L_law_16 : decode c_L_law 16 = .ok (.iconst 1, 1) := by decide +kernel
theorem d_L_law_17 : decode c_L_law 17 = .ok (.newarray .long, 2) := by decide +kernel
theorem d_L_law_19 : decode c_L_law 19 = .ok (.astore_n 3, 1) := by decide +kernel
theorem d_L_law_20 : decode c_L_law 20 = .ok (.iconst 0, 1) := by decide +kernel
theorem d_L_law_21 : decode c_L_law 21 = .ok (.istore 4, 2) := by decide +kernel
theorem d_L_law_23 : decode c_L_law 23 = .ok (.iload 4, 2) := by decide +kernel
theorem d_L_law_25 : decode c_L_law 25 = .ok (.aload_n 0, 1) := by decide +kernel
theorem d_L_law_26 : decode c_L_law 26 = .ok (.arraylength, 1) := by decide +kernel
theorem d_L_law_27 : decode c_L_law 27 = .ok (.iconst 3, 1) := by decide +kernel
theorem d_L_law_28 : decode c_L_law 28 = .ok (.isub, 1) := by decide +kernel
theorem d_L_law_29 : decode c_L_law 29 = .ok (.if_icmp .gt 581, 3) := by decide +kernel
theorem d_L_law_32 : decode c_L_law 32 = .ok (.aload_n 0, 1) := by decide +kernel
theorem d_L_law_33 : decode c_L_law 33 = .ok (.iload 4, 2) := by decide +kernel
theorem d_L_law_35 : decode c_L_law 35 = .ok (.iaload, 1) := by decide +kernel
theorem d_L_law_36 : decode c_L_law 36 = .ok (.bipush 15, 2) := by decide +kernel
theorem d_L_law_38 : decode c_L_law 38 = .ok (.iand, 1) := by decide +kernel
theorem d_L_law_39 : decode c_L_law 39 = .ok (.tableswitch 565 0 8 #[49, 105, 161, 217, 285, 341, 397, 453, 509], 49) := by decide +kernel
theorem d_L_law_88 : decode c_L_law 88 = .ok (.aload_n 1, 1) := by decide +kernel
theorem d_L_law_89 : decode c_L_law 89 = .ok (.aload_n 0, 1) := by decide +kernel
theorem d_L_law_90 : decode c_L_law 90 = .ok (.iload 4, 2) := by decide +kernel
theorem d_L_law_92 : decode c_L_law 92 = .ok (.iconst 1, 1) := by decide +kernel
theorem d_L_law_93 : decode c_L_law 93 = .ok (.iadd, 1) := by decide +kernel
theorem d_L_law_94 : decode c_L_law 94 = .ok (.iaload, 1) := by decide +kernel
theorem d_L_law_95 : decode c_L_law 95 = .ok (.aload_n 3, 1) := by decide +kernel
theorem d_L_law_96 : decode c_L_law 96 = .ok (.invokestatic 46, 3) := by decide +kernel
theorem d_L_law_99 : decode c_L_law 99 = .ok (.istore 5, 2) := by decide +kernel
theorem d_L_law_101 : decode c_L_law 101 = .ok (.aload_n 2, 1) := by decide +kernel
theorem d_L_law_102 : decode c_L_law 102 = .ok (.aload_n 0, 1) := by decide +kernel
theorem d_L_law_103 : decode c_L_law 103 = .ok (.iload 4, 2) := by decide +kernel
theorem d_L_law_105 : decode c_L_law 105 = .ok (.iconst 1, 1) := by decide +kernel
theorem d_L_law_106 : decode c_L_law 106 = .ok (.iadd, 1) := by decide +kernel
theorem d_L_law_107 : decode c_L_law 107 = .ok (.iaload, 1) := by decide +kernel
theorem d_L_law_108 : decode c_L_law 108 = .ok (.invokevirtual 51, 3) := by decide +kernel
theorem d_L_law_111 : decode c_L_law 111 = .ok (.istore 6, 2) := by decide +kernel
theorem d_L_law_113 : decode c_L_law 113 = .ok (.aload_n 2, 1) := by decide +kernel
theorem d_L_law_114 : decode c_L_law 114 = .ok (.invokevirtual 52, 3) := by decide +kernel
theorem d_L_law_117 : decode c_L_law 117 = .ok (.iload 5, 2) := by decide +kernel
theorem d_L_law_119 : decode c_L_law 119 = .ok (.if_icmp .eq 5, 3) := by decide +kernel
theorem d_L_law_122 : decode c_L_law 122 = .ok (.iconst 0, 1) := by decide +kernel
theorem d_L_law_123 : decode c_L_law 123 = .ok (.ireturn, 1) := by decide +kernel
theorem d_L_law_124 : decode c_L_law 124 = .ok (.iload 5, 2) := by decide +kernel
theorem d_L_law_126 : decode c_L_law 126 = .ok (.ifCond .ne 15, 3) := by decide +kernel
theorem d_L_law_129 : decode c_L_law 129 = .ok (.aload_n 3, 1) := by decide +kernel
theorem d_L_law_130 : decode c_L_law 130 = .ok (.iconst 0, 1) := by decide +kernel
theorem d_L_law_131 : decode c_L_law 131 = .ok (.laload, 1) := by decide +kernel
theorem d_L_law_132 : decode c_L_law 132 = .ok (.iload 6, 2) := by decide +kernel
theorem d_L_law_134 : decode c_L_law 134 = .ok (.i2l, 1) := by decide +kernel
theorem d_L_law_135 : decode c_L_law 135 = .ok (.lcmp, 1) := by decide +kernel
theorem d_L_law_136 : decode c_L_law 136 = .ok (.ifCond .eq 5, 3) := by decide +kernel
theorem d_L_law_139 : decode c_L_law 139 = .ok (.iconst 0, 1) := by decide +kernel
theorem d_L_law_140 : decode c_L_law 140 = .ok (.ireturn, 1) := by decide +kernel
theorem d_L_law_141 : decode c_L_law 141 = .ok (.goto 463, 3) := by decide +kernel
theorem d_L_law_144 : decode c_L_law 144 = .ok (.aload_n 1, 1) := by decide +kernel
theorem d_L_law_145 : decode c_L_law 145 = .ok (.aload_n 0, 1) := by decide +kernel
theorem d_L_law_146 : decode c_L_law 146 = .ok (.iload 4, 2) := by decide +kernel
theorem d_L_law_148 : decode c_L_law 148 = .ok (.iconst 1, 1) := by decide +kernel
theorem d_L_law_149 : decode c_L_law 149 = .ok (.iadd, 1) := by decide +kernel
theorem d_L_law_150 : decode c_L_law 150 = .ok (.iaload, 1) := by decide +kernel
theorem d_L_law_151 : decode c_L_law 151 = .ok (.aload_n 3, 1) := by decide +kernel
theorem d_L_law_152 : decode c_L_law 152 = .ok (.invokestatic 56, 3) := by decide +kernel
theorem d_L_law_155 : decode c_L_law 155 = .ok (.istore 5, 2) := by decide +kernel
theorem d_L_law_157 : decode c_L_law 157 = .ok (.aload_n 2, 1) := by decide +kernel
theorem d_L_law_158 : decode c_L_law 158 = .ok (.aload_n 0, 1) := by decide +kernel
theorem d_L_law_159 : decode c_L_law 159 = .ok (.iload 4, 2) := by decide +kernel
theorem d_L_law_161 : decode c_L_law 161 = .ok (.iconst 1, 1) := by decide +kernel
theorem d_L_law_162 : decode c_L_law 162 = .ok (.iadd, 1) := by decide +kernel
theorem d_L_law_163 : decode c_L_law 163 = .ok (.iaload, 1) := by decide +kernel
theorem d_L_law_164 : decode c_L_law 164 = .ok (.invokevirtual 58, 3) := by decide +kernel
theorem d_L_law_167 : decode c_L_law 167 = .ok (.istore 6, 2) := by decide +kernel
theorem d_L_law_169 : decode c_L_law 169 = .ok (.aload_n 2, 1) := by decide +kernel
theorem d_L_law_170 : decode c_L_law 170 = .ok (.invokevirtual 52, 3) := by decide +kernel
theorem d_L_law_173 : decode c_L_law 173 = .ok (.iload 5, 2) := by decide +kernel
theorem d_L_law_175 : decode c_L_law 175 = .ok (.if_icmp .eq 5, 3) := by decide +kernel
theorem d_L_law_178 : decode c_L_law 178 = .ok (.iconst 0, 1) := by decide +kernel
theorem d_L_law_179 : decode c_L_law 179 = .ok (.ireturn, 1) := by decide +kernel
theorem d_L_law_180 : decode c_L_law 180 = .ok (.iload 5, 2) := by decide +kernel
theorem d_L_law_182 : decode c_L_law 182 = .ok (.ifCond .ne 15, 3) := by decide +kernel
theorem d_L_law_185 : decode c_L_law 185 = .ok (.aload_n 3, 1) := by decide +kernel
theorem d_L_law_186 : decode c_L_law 186 = .ok (.iconst 0, 1) := by decide +kernel
theorem d_L_law_187 : decode c_L_law 187 = .ok (.laload, 1) := by decide +kernel
theorem d_L_law_188 : decode c_L_law 188 = .ok (.iload 6, 2) := by decide +kernel
theorem d_L_law_190 : decode c_L_law 190 = .ok (.i2l, 1) := by decide +kernel
theorem d_L_law_191 : decode c_L_law 191 = .ok (.lcmp, 1) := by decide +kernel
theorem d_L_law_192 : decode c_L_law 192 = .ok (.ifCond .eq 5, 3) := by decide +kernel
theorem d_L_law_195 : decode c_L_law 195 = .ok (.iconst 0, 1) := by decide +kernel
theorem d_L_law_196 : decode c_L_law 196 = .ok (.ireturn, 1) := by decide +kernel
theorem d_L_law_197 : decode c_L_law 197 = .ok (.goto 407, 3) := by decide +kernel
theorem d_L_law_200 : decode c_L_law 200 = .ok (.aload_n 1, 1) := by decide +kernel
theorem d_L_law_201 : decode c_L_law 201 = .ok (.aload_n 0, 1) := by decide +kernel
theorem d_L_law_202 : decode c_L_law 202 = .ok (.iload 4, 2) := by decide +kernel
theorem d_L_law_204 : decode c_L_law 204 = .ok (.iconst 1, 1) := by decide +kernel
theorem d_L_law_205 : decode c_L_law 205 = .ok (.iadd, 1) := by decide +kernel
theorem d_L_law_206 : decode c_L_law 206 = .ok (.iaload, 1) := by decide +kernel
theorem d_L_law_207 : decode c_L_law 207 = .ok (.aload_n 3, 1) := by decide +kernel
theorem d_L_law_208 : decode c_L_law 208 = .ok (.invokestatic 59, 3) := by decide +kernel
theorem d_L_law_211 : decode c_L_law 211 = .ok (.istore 5, 2) := by decide +kernel
theorem d_L_law_213 : decode c_L_law 213 = .ok (.aload_n 2, 1) := by decide +kernel
theorem d_L_law_214 : decode c_L_law 214 = .ok (.aload_n 0, 1) := by decide +kernel
theorem d_L_law_215 : decode c_L_law 215 = .ok (.iload 4, 2) := by decide +kernel
theorem d_L_law_217 : decode c_L_law 217 = .ok (.iconst 1, 1) := by decide +kernel
theorem d_L_law_218 : decode c_L_law 218 = .ok (.iadd, 1) := by decide +kernel
theorem d_L_law_219 : decode c_L_law 219 = .ok (.iaload, 1) := by decide +kernel
theorem d_L_law_220 : decode c_L_law 220 = .ok (.invokevirtual 61, 3) := by decide +kernel
theorem d_L_law_223 : decode c_L_law 223 = .ok (.istore 6, 2) := by decide +kernel
theorem d_L_law_225 : decode c_L_law 225 = .ok (.aload_n 2, 1) := by decide +kernel
theorem d_L_law_226 : decode c_L_law 226 = .ok (.invokevirtual 52, 3) := by decide +kernel
theorem d_L_law_229 : decode c_L_law 229 = .ok (.iload 5, 2) := by decide +kernel
theorem d_L_law_231 : decode c_L_law 231 = .ok (.if_icmp .eq 5, 3) := by decide +kernel
theorem d_L_law_234 : decode c_L_law 234 = .ok (.iconst 0, 1) := by decide +kernel
theorem d_L_law_235 : decode c_L_law 235 = .ok (.ireturn, 1) := by decide +kernel
theorem d_L_law_236 : decode c_L_law 236 = .ok (.iload 5, 2) := by decide +kernel
theorem d_L_law_238 : decode c_L_law 238 = .ok (.ifCond .ne 15, 3) := by decide +kernel
theorem d_L_law_241 : decode c_L_law 241 = .ok (.aload_n 3, 1) := by decide +kernel
theorem d_L_law_242 : decode c_L_law 242 = .ok (.iconst 0, 1) := by decide +kernel
theorem d_L_law_243 : decode c_L_law 243 = .ok (.laload, 1) := by decide +kernel
theorem d_L_law_244 : decode c_L_law 244 = .ok (.iload 6, 2) := by decide +kernel
theorem d_L_law_246 : decode c_L_law 246 = .ok (.i2l, 1) := by decide +kernel
theorem d_L_law_247 : decode c_L_law 247 = .ok (.lcmp, 1) := by decide +kernel
theorem d_L_law_248 : decode c_L_law 248 = .ok (.ifCond .eq 5, 3) := by decide +kernel
theorem d_L_law_251 : decode c_L_law 251 = .ok (.iconst 0, 1) := by decide +kernel
theorem d_L_law_252 : decode c_L_law 252 = .ok (.ireturn, 1) := by decide +kernel
theorem d_L_law_253 : decode c_L_law 253 = .ok (.goto 351, 3) := by decide +kernel
theorem d_L_law_256 : decode c_L_law 256 = .ok (.aload_n 1, 1) := by decide +kernel
theorem d_L_law_257 : decode c_L_law 257 = .ok (.aload_n 0, 1) := by decide +kernel
theorem d_L_law_258 : decode c_L_law 258 = .ok (.iload 4, 2) := by decide +kernel
theorem d_L_law_260 : decode c_L_law 260 = .ok (.iconst 1, 1) := by decide +kernel
theorem d_L_law_261 : decode c_L_law 261 = .ok (.iadd, 1) := by decide +kernel
theorem d_L_law_262 : decode c_L_law 262 = .ok (.iaload, 1) := by decide +kernel
theorem d_L_law_263 : decode c_L_law 263 = .ok (.aload_n 0, 1) := by decide +kernel
theorem d_L_law_264 : decode c_L_law 264 = .ok (.iload 4, 2) := by decide +kernel
theorem d_L_law_266 : decode c_L_law 266 = .ok (.iconst 2, 1) := by decide +kernel
theorem d_L_law_267 : decode c_L_law 267 = .ok (.iadd, 1) := by decide +kernel
theorem d_L_law_268 : decode c_L_law 268 = .ok (.iaload, 1) := by decide +kernel
theorem d_L_law_269 : decode c_L_law 269 = .ok (.aload_n 3, 1) := by decide +kernel
theorem d_L_law_270 : decode c_L_law 270 = .ok (.invokestatic 62, 3) := by decide +kernel
theorem d_L_law_273 : decode c_L_law 273 = .ok (.istore 5, 2) := by decide +kernel
theorem d_L_law_275 : decode c_L_law 275 = .ok (.aload_n 2, 1) := by decide +kernel
theorem d_L_law_276 : decode c_L_law 276 = .ok (.aload_n 0, 1) := by decide +kernel
theorem d_L_law_277 : decode c_L_law 277 = .ok (.iload 4, 2) := by decide +kernel
theorem d_L_law_279 : decode c_L_law 279 = .ok (.iconst 1, 1) := by decide +kernel
theorem d_L_law_280 : decode c_L_law 280 = .ok (.iadd, 1) := by decide +kernel
theorem d_L_law_281 : decode c_L_law 281 = .ok (.iaload, 1) := by decide +kernel
theorem d_L_law_282 : decode c_L_law 282 = .ok (.aload_n 0, 1) := by decide +kernel
theorem d_L_law_283 : decode c_L_law 283 = .ok (.iload 4, 2) := by decide +kernel
theorem d_L_law_285 : decode c_L_law 285 = .ok (.iconst 2, 1) := by decide +kernel
theorem d_L_law_286 : decode c_L_law 286 = .ok (.iadd, 1) := by decide +kernel
theorem d_L_law_287 : decode c_L_law 287 = .ok (.iaload, 1) := by decide +kernel
theorem d_L_law_288 : decode c_L_law 288 = .ok (.invokevirtual 65, 3) := by decide +kernel
theorem d_L_law_291 : decode c_L_law 291 = .ok (.istore 6, 2) := by decide +kernel
theorem d_L_law_293 : decode c_L_law 293 = .ok (.aload_n 2, 1) := by decide +kernel
theorem d_L_law_294 : decode c_L_law 294 = .ok (.invokevirtual 52, 3) := by decide +kernel
theorem d_L_law_297 : decode c_L_law 297 = .ok (.iload 5, 2) := by decide +kernel
theorem d_L_law_299 : decode c_L_law 299 = .ok (.if_icmp .eq 5, 3) := by decide +kernel
theorem d_L_law_302 : decode c_L_law 302 = .ok (.iconst 0, 1) := by decide +kernel
theorem d_L_law_303 : decode c_L_law 303 = .ok (.ireturn, 1) := by decide +kernel
theorem d_L_law_304 : decode c_L_law 304 = .ok (.iload 5, 2) := by decide +kernel
theorem d_L_law_306 : decode c_L_law 306 = .ok (.ifCond .ne 15, 3) := by decide +kernel
theorem d_L_law_309 : decode c_L_law 309 = .ok (.aload_n 3, 1) := by decide +kernel
theorem d_L_law_310 : decode c_L_law 310 = .ok (.iconst 0, 1) := by decide +kernel
theorem d_L_law_311 : decode c_L_law 311 = .ok (.laload, 1) := by decide +kernel
theorem d_L_law_312 : decode c_L_law 312 = .ok (.iload 6, 2) := by decide +kernel
theorem d_L_law_314 : decode c_L_law 314 = .ok (.i2l, 1) := by decide +kernel
theorem d_L_law_315 : decode c_L_law 315 = .ok (.lcmp, 1) := by decide +kernel
theorem d_L_law_316 : decode c_L_law 316 = .ok (.ifCond .eq 5, 3) := by decide +kernel
theorem d_L_law_319 : decode c_L_law 319 = .ok (.iconst 0, 1) := by decide +kernel
theorem d_L_law_320 : decode c_L_law 320 = .ok (.ireturn, 1) := by decide +kernel
theorem d_L_law_321 : decode c_L_law 321 = .ok (.goto 283, 3) := by decide +kernel
theorem d_L_law_324 : decode c_L_law 324 = .ok (.aload_n 1, 1) := by decide +kernel
theorem d_L_law_325 : decode c_L_law 325 = .ok (.aload_n 0, 1) := by decide +kernel
theorem d_L_law_326 : decode c_L_law 326 = .ok (.iload 4, 2) := by decide +kernel
theorem d_L_law_328 : decode c_L_law 328 = .ok (.iconst 1, 1) := by decide +kernel
theorem d_L_law_329 : decode c_L_law 329 = .ok (.iadd, 1) := by decide +kernel
theorem d_L_law_330 : decode c_L_law 330 = .ok (.iaload, 1) := by decide +kernel
theorem d_L_law_331 : decode c_L_law 331 = .ok (.aload_n 3, 1) := by decide +kernel
theorem d_L_law_332 : decode c_L_law 332 = .ok (.invokestatic 66, 3) := by decide +kernel
theorem d_L_law_335 : decode c_L_law 335 = .ok (.istore 5, 2) := by decide +kernel
theorem d_L_law_337 : decode c_L_law 337 = .ok (.aload_n 2, 1) := by decide +kernel
theorem d_L_law_338 : decode c_L_law 338 = .ok (.aload_n 0, 1) := by decide +kernel
theorem d_L_law_339 : decode c_L_law 339 = .ok (.iload 4, 2) := by decide +kernel
theorem d_L_law_341 : decode c_L_law 341 = .ok (.iconst 1, 1) := by decide +kernel
theorem d_L_law_342 : decode c_L_law 342 = .ok (.iadd, 1) := by decide +kernel
theorem d_L_law_343 : decode c_L_law 343 = .ok (.iaload, 1) := by decide +kernel
theorem d_L_law_344 : decode c_L_law 344 = .ok (.invokevirtual 68, 3) := by decide +kernel
theorem d_L_law_347 : decode c_L_law 347 = .ok (.istore 6, 2) := by decide +kernel
theorem d_L_law_349 : decode c_L_law 349 = .ok (.aload_n 2, 1) := by decide +kernel
theorem d_L_law_350 : decode c_L_law 350 = .ok (.invokevirtual 52, 3) := by decide +kernel
theorem d_L_law_353 : decode c_L_law 353 = .ok (.iload 5, 2) := by decide +kernel
theorem d_L_law_355 : decode c_L_law 355 = .ok (.if_icmp .eq 5, 3) := by decide +kernel
theorem d_L_law_358 : decode c_L_law 358 = .ok (.iconst 0, 1) := by decide +kernel
theorem d_L_law_359 : decode c_L_law 359 = .ok (.ireturn, 1) := by decide +kernel
theorem d_L_law_360 : decode c_L_law 360 = .ok (.iload 5, 2) := by decide +kernel
theorem d_L_law_362 : decode c_L_law 362 = .ok (.ifCond .ne 15, 3) := by decide +kernel
theorem d_L_law_365 : decode c_L_law 365 = .ok (.aload_n 3, 1) := by decide +kernel
theorem d_L_law_366 : decode c_L_law 366 = .ok (.iconst 0, 1) := by decide +kernel
theorem d_L_law_367 : decode c_L_law 367 = .ok (.laload, 1) := by decide +kernel
theorem d_L_law_368 : decode c_L_law 368 = .ok (.iload 6, 2) := by decide +kernel
theorem d_L_law_370 : decode c_L_law 370 = .ok (.i2l, 1) := by decide +kernel
theorem d_L_law_371 : decode c_L_law 371 = .ok (.lcmp, 1) := by decide +kernel
theorem d_L_law_372 : decode c_L_law 372 = .ok (.ifCond .eq 5, 3) := by decide +kernel
theorem d_L_law_375 : decode c_L_law 375 = .ok (.iconst 0, 1) := by decide +kernel
theorem d_L_law_376 : decode c_L_law 376 = .ok (.ireturn, 1) := by decide +kernel
theorem d_L_law_377 : decode c_L_law 377 = .ok (.goto 227, 3) := by decide +kernel
theorem d_L_law_380 : decode c_L_law 380 = .ok (.aload_n 1, 1) := by decide +kernel
theorem d_L_law_381 : decode c_L_law 381 = .ok (.aload_n 0, 1) := by decide +kernel
theorem d_L_law_382 : decode c_L_law 382 = .ok (.iload 4, 2) := by decide +kernel
theorem d_L_law_384 : decode c_L_law 384 = .ok (.iconst 1, 1) := by decide +kernel
theorem d_L_law_385 : decode c_L_law 385 = .ok (.iadd, 1) := by decide +kernel
theorem d_L_law_386 : decode c_L_law 386 = .ok (.iaload, 1) := by decide +kernel
theorem d_L_law_387 : decode c_L_law 387 = .ok (.aload_n 3, 1) := by decide +kernel
theorem d_L_law_388 : decode c_L_law 388 = .ok (.invokestatic 69, 3) := by decide +kernel
theorem d_L_law_391 : decode c_L_law 391 = .ok (.istore 5, 2) := by decide +kernel
theorem d_L_law_393 : decode c_L_law 393 = .ok (.aload_n 2, 1) := by decide +kernel
theorem d_L_law_394 : decode c_L_law 394 = .ok (.aload_n 0, 1) := by decide +kernel
theorem d_L_law_395 : decode c_L_law 395 = .ok (.iload 4, 2) := by decide +kernel
theorem d_L_law_397 : decode c_L_law 397 = .ok (.iconst 1, 1) := by decide +kernel
theorem d_L_law_398 : decode c_L_law 398 = .ok (.iadd, 1) := by decide +kernel
theorem d_L_law_399 : decode c_L_law 399 = .ok (.iaload, 1) := by decide +kernel
theorem d_L_law_400 : decode c_L_law 400 = .ok (.invokevirtual 71, 3) := by decide +kernel
theorem d_L_law_403 : decode c_L_law 403 = .ok (.istore 6, 2) := by decide +kernel
theorem d_L_law_405 : decode c_L_law 405 = .ok (.aload_n 2, 1) := by decide +kernel
theorem d_L_law_406 : decode c_L_law 406 = .ok (.invokevirtual 52, 3) := by decide +kernel
theorem d_L_law_409 : decode c_L_law 409 = .ok (.iload 5, 2) := by decide +kernel
theorem d_L_law_411 : decode c_L_law 411 = .ok (.if_icmp .eq 5, 3) := by decide +kernel
theorem d_L_law_414 : decode c_L_law 414 = .ok (.iconst 0, 1) := by decide +kernel
theorem d_L_law_415 : decode c_L_law 415 = .ok (.ireturn, 1) := by decide +kernel
theorem d_L_law_416 : decode c_L_law 416 = .ok (.iload 5, 2) := by decide +kernel
theorem d_L_law_418 : decode c_L_law 418 = .ok (.ifCond .ne 15, 3) := by decide +kernel
theorem d_L_law_421 : decode c_L_law 421 = .ok (.aload_n 3, 1) := by decide +kernel
theorem d_L_law_422 : decode c_L_law 422 = .ok (.iconst 0, 1) := by decide +kernel
theorem d_L_law_423 : decode c_L_law 423 = .ok (.laload, 1) := by decide +kernel
theorem d_L_law_424 : decode c_L_law 424 = .ok (.iload 6, 2) := by decide +kernel
theorem d_L_law_426 : decode c_L_law 426 = .ok (.i2l, 1) := by decide +kernel
theorem d_L_law_427 : decode c_L_law 427 = .ok (.lcmp, 1) := by decide +kernel
theorem d_L_law_428 : decode c_L_law 428 = .ok (.ifCond .eq 5, 3) := by decide +kernel
theorem d_L_law_431 : decode c_L_law 431 = .ok (.iconst 0, 1) := by decide +kernel
theorem d_L_law_432 : decode c_L_law 432 = .ok (.ireturn, 1) := by decide +kernel
theorem d_L_law_433 : decode c_L_law 433 = .ok (.goto 171, 3) := by decide +kernel
theorem d_L_law_436 : decode c_L_law 436 = .ok (.aload_n 1, 1) := by decide +kernel
theorem d_L_law_437 : decode c_L_law 437 = .ok (.aload_n 0, 1) := by decide +kernel
theorem d_L_law_438 : decode c_L_law 438 = .ok (.iload 4, 2) := by decide +kernel
theorem d_L_law_440 : decode c_L_law 440 = .ok (.iconst 1, 1) := by decide +kernel
theorem d_L_law_441 : decode c_L_law 441 = .ok (.iadd, 1) := by decide +kernel
theorem d_L_law_442 : decode c_L_law 442 = .ok (.iaload, 1) := by decide +kernel
theorem d_L_law_443 : decode c_L_law 443 = .ok (.aload_n 3, 1) := by decide +kernel
theorem d_L_law_444 : decode c_L_law 444 = .ok (.invokestatic 72, 3) := by decide +kernel
theorem d_L_law_447 : decode c_L_law 447 = .ok (.istore 5, 2) := by decide +kernel
theorem d_L_law_449 : decode c_L_law 449 = .ok (.aload_n 2, 1) := by decide +kernel
theorem d_L_law_450 : decode c_L_law 450 = .ok (.aload_n 0, 1) := by decide +kernel
theorem d_L_law_451 : decode c_L_law 451 = .ok (.iload 4, 2) := by decide +kernel
theorem d_L_law_453 : decode c_L_law 453 = .ok (.iconst 1, 1) := by decide +kernel
theorem d_L_law_454 : decode c_L_law 454 = .ok (.iadd, 1) := by decide +kernel
theorem d_L_law_455 : decode c_L_law 455 = .ok (.iaload, 1) := by decide +kernel
theorem d_L_law_456 : decode c_L_law 456 = .ok (.invokevirtual 74, 3) := by decide +kernel
theorem d_L_law_459 : decode c_L_law 459 = .ok (.istore 6, 2) := by decide +kernel
theorem d_L_law_461 : decode c_L_law 461 = .ok (.aload_n 2, 1) := by decide +kernel
theorem d_L_law_462 : decode c_L_law 462 = .ok (.invokevirtual 52, 3) := by decide +kernel
theorem d_L_law_465 : decode c_L_law 465 = .ok (.iload 5, 2) := by decide +kernel
theorem d_L_law_467 : decode c_L_law 467 = .ok (.if_icmp .eq 5, 3) := by decide +kernel
theorem d_L_law_470 : decode c_L_law 470 = .ok (.iconst 0, 1) := by decide +kernel
theorem d_L_law_471 : decode c_L_law 471 = .ok (.ireturn, 1) := by decide +kernel
theorem d_L_law_472 : decode c_L_law 472 = .ok (.iload 5, 2) := by decide +kernel
theorem d_L_law_474 : decode c_L_law 474 = .ok (.ifCond .ne 15, 3) := by decide +kernel
theorem d_L_law_477 : decode c_L_law 477 = .ok (.aload_n 3, 1) := by decide +kernel
theorem d_L_law_478 : decode c_L_law 478 = .ok (.iconst 0, 1) := by decide +kernel
theorem d_L_law_479 : decode c_L_law 479 = .ok (.laload, 1) := by decide +kernel
theorem d_L_law_480 : decode c_L_law 480 = .ok (.iload 6, 2) := by decide +kernel
theorem d_L_law_482 : decode c_L_law 482 = .ok (.i2l, 1) := by decide +kernel
theorem d_L_law_483 : decode c_L_law 483 = .ok (.lcmp, 1) := by decide +kernel
theorem d_L_law_484 : decode c_L_law 484 = .ok (.ifCond .eq 5, 3) := by decide +kernel
theorem d_L_law_487 : decode c_L_law 487 = .ok (.iconst 0, 1) := by decide +kernel
theorem d_L_law_488 : decode c_L_law 488 = .ok (.ireturn, 1) := by decide +kernel
theorem d_L_law_489 : decode c_L_law 489 = .ok (.goto 115, 3) := by decide +kernel
theorem d_L_law_492 : decode c_L_law 492 = .ok (.aload_n 1, 1) := by decide +kernel
theorem d_L_law_493 : decode c_L_law 493 = .ok (.aload_n 0, 1) := by decide +kernel
theorem d_L_law_494 : decode c_L_law 494 = .ok (.iload 4, 2) := by decide +kernel
theorem d_L_law_496 : decode c_L_law 496 = .ok (.iconst 1, 1) := by decide +kernel
theorem d_L_law_497 : decode c_L_law 497 = .ok (.iadd, 1) := by decide +kernel
theorem d_L_law_498 : decode c_L_law 498 = .ok (.iaload, 1) := by decide +kernel
theorem d_L_law_499 : decode c_L_law 499 = .ok (.aload_n 3, 1) := by decide +kernel
theorem d_L_law_500 : decode c_L_law 500 = .ok (.invokestatic 75, 3) := by decide +kernel
theorem d_L_law_503 : decode c_L_law 503 = .ok (.istore 5, 2) := by decide +kernel
theorem d_L_law_505 : decode c_L_law 505 = .ok (.aload_n 2, 1) := by decide +kernel
theorem d_L_law_506 : decode c_L_law 506 = .ok (.aload_n 0, 1) := by decide +kernel
theorem d_L_law_507 : decode c_L_law 507 = .ok (.iload 4, 2) := by decide +kernel
theorem d_L_law_509 : decode c_L_law 509 = .ok (.iconst 1, 1) := by decide +kernel
theorem d_L_law_510 : decode c_L_law 510 = .ok (.iadd, 1) := by decide +kernel
theorem d_L_law_511 : decode c_L_law 511 = .ok (.iaload, 1) := by decide +kernel
theorem d_L_law_512 : decode c_L_law 512 = .ok (.invokevirtual 77, 3) := by decide +kernel
theorem d_L_law_515 : decode c_L_law 515 = .ok (.istore 6, 2) := by decide +kernel
theorem d_L_law_517 : decode c_L_law 517 = .ok (.aload_n 2, 1) := by decide +kernel
theorem d_L_law_518 : decode c_L_law 518 = .ok (.invokevirtual 52, 3) := by decide +kernel
theorem d_L_law_521 : decode c_L_law 521 = .ok (.iload 5, 2) := by decide +kernel
theorem d_L_law_523 : decode c_L_law 523 = .ok (.if_icmp .eq 5, 3) := by decide +kernel
theorem d_L_law_526 : decode c_L_law 526 = .ok (.iconst 0, 1) := by decide +kernel
theorem d_L_law_527 : decode c_L_law 527 = .ok (.ireturn, 1) := by decide +kernel
theorem d_L_law_528 : decode c_L_law 528 = .ok (.iload 5, 2) := by decide +kernel
theorem d_L_law_530 : decode c_L_law 530 = .ok (.ifCond .ne 15, 3) := by decide +kernel
theorem d_L_law_533 : decode c_L_law 533 = .ok (.aload_n 3, 1) := by decide +kernel
theorem d_L_law_534 : decode c_L_law 534 = .ok (.iconst 0, 1) := by decide +kernel
theorem d_L_law_535 : decode c_L_law 535 = .ok (.laload, 1) := by decide +kernel
theorem d_L_law_536 : decode c_L_law 536 = .ok (.iload 6, 2) := by decide +kernel
theorem d_L_law_538 : decode c_L_law 538 = .ok (.i2l, 1) := by decide +kernel
theorem d_L_law_539 : decode c_L_law 539 = .ok (.lcmp, 1) := by decide +kernel
theorem d_L_law_540 : decode c_L_law 540 = .ok (.ifCond .eq 5, 3) := by decide +kernel
theorem d_L_law_543 : decode c_L_law 543 = .ok (.iconst 0, 1) := by decide +kernel
theorem d_L_law_544 : decode c_L_law 544 = .ok (.ireturn, 1) := by decide +kernel
theorem d_L_law_545 : decode c_L_law 545 = .ok (.goto 59, 3) := by decide +kernel
theorem d_L_law_548 : decode c_L_law 548 = .ok (.aload_n 1, 1) := by decide +kernel
theorem d_L_law_549 : decode c_L_law 549 = .ok (.aload_n 0, 1) := by decide +kernel
theorem d_L_law_550 : decode c_L_law 550 = .ok (.iload 4, 2) := by decide +kernel
theorem d_L_law_552 : decode c_L_law 552 = .ok (.iconst 1, 1) := by decide +kernel
theorem d_L_law_553 : decode c_L_law 553 = .ok (.iadd, 1) := by decide +kernel
theorem d_L_law_554 : decode c_L_law 554 = .ok (.iaload, 1) := by decide +kernel
theorem d_L_law_555 : decode c_L_law 555 = .ok (.aload_n 3, 1) := by decide +kernel
theorem d_L_law_556 : decode c_L_law 556 = .ok (.invokestatic 78, 3) := by decide +kernel
theorem d_L_law_559 : decode c_L_law 559 = .ok (.istore 5, 2) := by decide +kernel
theorem d_L_law_561 : decode c_L_law 561 = .ok (.aload_n 2, 1) := by decide +kernel
theorem d_L_law_562 : decode c_L_law 562 = .ok (.aload_n 0, 1) := by decide +kernel
theorem d_L_law_563 : decode c_L_law 563 = .ok (.iload 4, 2) := by decide +kernel
theorem d_L_law_565 : decode c_L_law 565 = .ok (.iconst 1, 1) := by decide +kernel
theorem d_L_law_566 : decode c_L_law 566 = .ok (.iadd, 1) := by decide +kernel
theorem d_L_law_567 : decode c_L_law 567 = .ok (.iaload, 1) := by decide +kernel
theorem d_L_law_568 : decode c_L_law 568 = .ok (.invokevirtual 80, 3) := by decide +kernel
theorem d_L_law_571 : decode c_L_law 571 = .ok (.istore 6, 2) := by decide +kernel
theorem d_L_law_573 : decode c_L_law 573 = .ok (.aload_n 2, 1) := by decide +kernel
theorem d_L_law_574 : decode c_L_law 574 = .ok (.invokevirtual 52, 3) := by decide +kernel
theorem d_L_law_577 : decode c_L_law 577 = .ok (.iload 5, 2) := by decide +kernel
theorem d_L_law_579 : decode c_L_law 579 = .ok (.if_icmp .eq 5, 3) := by decide +kernel
theorem d_L_law_582 : decode c_L_law 582 = .ok (.iconst 0, 1) := by decide +kernel
theorem d_L_law_583 : decode c_L_law 583 = .ok (.ireturn, 1) := by decide +kernel
theorem d_L_law_584 : decode c_L_law 584 = .ok (.iload 5, 2) := by decide +kernel
theorem d_L_law_586 : decode c_L_law 586 = .ok (.ifCond .ne 15, 3) := by decide +kernel
theorem d_L_law_589 : decode c_L_law 589 = .ok (.aload_n 3, 1) := by decide +kernel
theorem d_L_law_590 : decode c_L_law 590 = .ok (.iconst 0, 1) := by decide +kernel
theorem d_L_law_591 : decode c_L_law 591 = .ok (.laload, 1) := by decide +kernel
theorem d_L_law_592 : decode c_L_law 592 = .ok (.iload 6, 2) := by decide +kernel
theorem d_L_law_594 : decode c_L_law 594 = .ok (.i2l, 1) := by decide +kernel
theorem d_L_law_595 : decode c_L_law 595 = .ok (.lcmp, 1) := by decide +kernel
theorem d_L_law_596 : decode c_L_law 596 = .ok (.ifCond .eq 5, 3) := by decide +kernel
theorem d_L_law_599 : decode c_L_law 599 = .ok (.iconst 0, 1) := by decide +kernel
theorem d_L_law_600 : decode c_L_law 600 = .ok (.ireturn, 1) := by decide +kernel
theorem d_L_law_601 : decode c_L_law 601 = .ok (.goto 3, 3) := by decide +kernel
theorem d_L_law_604 : decode c_L_law 604 = .ok (.iinc 4 3, 3) := by decide +kernel
theorem d_L_law_607 : decode c_L_law 607 = .ok (.goto (-584), 3) := by decide +kernel
theorem d_L_law_610 : decode c_L_law 610 = .ok (.iconst 1, 1) := by decide +kernel
theorem d_L_law_611 : decode c_L_law 611 = .ok (.ireturn, 1) := by decide +kernel
end
section
theorem z_l3 {t L : Nat} (h : ¬ nI L - nI 3 < nI (3 * t)) (hL : L ≤ 1536) (ht : t ≤ 512) : 3 * t + 3 ≤ L := by
  rw [Int32.lt_iff_toInt_lt, pk_sub_toInt (by omega) (by decide), nI_toInt (by omega)] at h
  omega
/-! THE CLAIM OUT OF ONE WALK OF THE LAW'S BODY. Your part is whole_start (and what it stands on); all else here is the same for every law, but numbers. -/
def R_law : String := "StartTableLaw"
def lw_P (b : Addr) (xs : List Int32) (args : Array Value) (s : State) : Prop := args = #[.ref b] ∧ s.IntsAt b xs ∧ xs.length ≤ 1536 ∧ (Jvm.Cond.and given_1 narrow_1).before args s = true
def lw_Q (_ : Array Value) (s : State) (o : Outcome) (t : State) : Prop := o = .returned (some (.int 1)) ∧ Framed s o t [] 1035 25639
def lw_Z (below : List Frame) (a : Array Value) (s : State) : State → Prop := fun t => ∃ o, t.status = .running ∧ Ended t below o ∧ lw_Q a s o t
/-- the law's own end, with 1 on the stack, nothing written that was there before, its room as the claim has it -/
theorem lw_ret {p : Program} {l : Launch} {e : Env} {s : State} {m : MethodId} {below : List Frame} {meth : Method} {c : Code} {b : Nat} (hx : p.tables.exec = Jvm.exec) (hb : c.code = code) (hr : meth.sig.returnType = ret) (hlocks : meth.locks = false) {pc : Nat} {H : Heap} {ls : Array Slot} (hdg : decode code pc = .ok (.ireturn, 1)) : W p l e room_1 s m #[Value.ref b] below meth c H [] 1035 25639 (lw_Z below #[Value.ref b] s) (F0 m pc ls [.int 1]) := by
  intro T hT X
  obtain ⟨fs, hret, hrun, hended, hW, hframe⟩ := X.leave (v := some (.int 1)) (hlocks := hlocks) (fun h => by rw [hr] at h; cases h)
  have hmeth' : T.vm.method? m = some meth := X.method'
  refine ⟨T.setFrames fs, ?_, .returned (some (.int 1)), hrun, hended, rfl, ⟨_, rfl⟩, hW, hframe⟩
  jvm_step X.here [X.here.top, hx, hb, hdg, hmeth', hr, ret, narrow_b1]
  (try refine ⟨rfl, ?_⟩); (try refine ⟨rfl, ?_⟩)
  first | (intro acts; rw [hret _ acts rfl rfl rfl]) | rw [hret _ _ rfl rfl rfl]
  exact Steps.refl _
/-- what holds at the law's entry: the machine, the code, the tables' words (any of lw_tbl by 'hts w (by decide +kernel)'), the script of L ints xs at the cell b, what the Statement gives of the start (any of its parts by flat_of_before) -/
def lw_At (p : Program) (s : State) (m : MethodId) (meth : Method) (c : Code) (b L : Nat) (xs : Nat → Int32) : Prop :=
  p.tables.exec = Jvm.exec ∧ c.code = code ∧ meth.sig.returnType = ret ∧ c.maxLocals = 7 ∧ s.vm.findClass R_law = some m.cls ∧ (∀ w ∈ lw_tbl, w.before #[Value.ref b] s = true) ∧ va_X b L xs s s.heap ∧ b < s.heap.size ∧ meth.locks = false ∧ (Jvm.Cond.and given_1 narrow_1).before #[Value.ref b] s = true
end
section
set_option maxHeartbeats 40000000 in
set_option maxRecDepth 100000 in
/-- THE LAW'S LOOP: at its head, with t calls done, class and reference hold the same row -/
theorem law_loop {p : Program} {e : Env} {s : State} {m : MethodId} {below : List Frame} {meth : Method} {c : Code} (l : Launch) (hlt : l.stackTraces = false) {b L : Nat} {xs : Nat → Int32} (hL : L ≤ 1536) (C0 : lw_At p s m meth c b L xs) {dC : Nat → ClassId} {dI : Nat → Nat → Nat} {h0 h1 h2 o0 a0 a1 : Nat} {cA cB cO cM : ClassId} (hK : va_K (dC, dI) vwCl [(cA, .int), (cB, .int), (cM, .boolean), (cO, .long)] s) :
    ∀ (f t nn pp : Nat) (M S : Nat → Int32) (fo : Nat → Int64) (th : Int32) (F : Nat → Int32) (G : Nat → Bool), t ≤ 512 → t + f = 513 → zCI nn pp M S → MF F G → zR nn (zm M) G → ∀ (H : Heap) (locs : List Loc) (cs sl : Nat), cs ≤ 6 + 2 * t → sl ≤ 17417 + 12 * t →
      va_P (dC, dI) vwCl [(h0, .inr (0, [.ref h1, .ref h2, .int (nI nn), .int (nI pp)])), (h1, .inl (cA, 512, .inl M)), (h2, .inl (cB, 512, .inl S)), (o0, .inl (cO, 1, .inr (.inl fo))), (a0, .inr (1, [.int th, .int (nI nn), .ref a1])), (a1, .inl (cM, 16385, .inl F))] H → va_D (fun q : Nat => s.heap.size ≤ q) [(h0, .inr (0, [.ref h1, .ref h2, .int (nI nn), .int (nI pp)])), (h1, .inl (cA, 512, .inl M)), (h2, .inl (cB, 512, .inl S)), (o0, .inl (cO, 1, .inr (.inl fo))), (a0, .inr (1, [.int th, .int (nI nn), .ref a1])), (a1, .inl (cM, 16385, .inl F))] → va_S (fun q : Nat => s.heap.size ≤ q) s.heap H locs → ∀ (ls : Array Slot), lv_has ls 7 [(0, .ref b), (1, .ref h0), (2, .ref a0), (3, .ref o0), (4, .int (nI (3 * t)))] → W p l e room_1 s m #[Value.ref b] below meth c H locs cs sl (lw_Z below #[Value.ref b] s) (F0 m 23 ls []) := by
  obtain ⟨hx, hb, hr, hml, hown0, hts0, hX, hbl, hlocks, hgv⟩ := id C0
  have hown : s.vm.findClass RL = some m.cls := hown0
  have hts : ∀ w ∈ zAll, w.before #[Value.ref b] s = true := fun w h => hts0 w (List.mem_filter.mp h).1
  have hZ := zThr_0 hts0 hgv
  have hA : ∀ q : Nat, s.heap.size ≤ q → (fun q : Nat => s.heap.size ≤ q) q := fun _ h => h
  have hbA : ¬ (fun q : Nat => s.heap.size ≤ q) b := Nat.not_le.mpr hbl
  intro f
  induction f with
  | zero => intro t nn pp M S fo th F G h1 h2; exact absurd h2 (by omega)
  | succ f ih =>
    intro t nn pp M S fo th F G ht hf g0 hF gR H locs cs sl hcs hsl hP hD hS ls hl
    obtain ⟨i1, i2, i3, i4, i5, i6⟩ := id g0
    have gG0 : G 0 = true := by (rw [gR.1 0 (by omega)]; exact i3)
    refine lv_iload hx hb d_L_law_23 (lv_at hl 4 rfl) ?_
    refine lv_aload_n hx hb d_L_law_25 rfl (lv_at hl 0 rfl) ?_
    refine va_slen hx hb hX hbl hbA hS d_L_law_26 ?_
    refine lv_iconst (v := nI 3) hx hb d_L_law_27 (by decide) ?_
    refine lv_isub hx hb d_L_law_28 ?_
    refine lv_icmp_gt (tgt := 610) hx hb d_L_law_29 (by decide) (fun c1 => ?_) (fun c1 => ?_)
    · refine lv_iconst (v := nI 1) hx hb d_L_law_610 (by decide) ?_
      refine va_forget (fun q hq => hS.2.2 q hq) ?_
      refine W.widen (k := 1035) (n := 25639) (by omega) (by omega) ?_
      exact lw_ret hx hb hr hlocks d_L_law_611
    · have hlt3 : 3 * t + 3 ≤ L := z_l3 c1 (by omega) (by omega)
      refine lv_aload_n hx hb d_L_law_32 rfl (lv_at hl 0 rfl) ?_
      refine lv_iload hx hb d_L_law_33 (lv_at hl 4 rfl) ?_
      refine va_sld hx hb hX hbl hbA hS (vp_in_nI (by omega) (by omega)) d_L_law_35 ?_
      refine lv_topi (nm_r (show _ = xs (3 * t) from by rw [nI_clamp (by omega)]) ?_)
      refine lv_bipush (v := nI 15) hx hb d_L_law_36 (by decide) ?_
      refine lv_iand hx hb d_L_law_38 ?_
      obtain ⟨op, op1, op2⟩ := pk_andE (xs (3 * t)) (m := nI 15) 4 (by decide)
      refine lv_topi (nm_r (show _ = nI op from op2) ?_)
      rcases (show op = 0 ∨ op = 1 ∨ op = 2 ∨ op = 3 ∨ op = 4 ∨ op = 5 ∨ op = 6 ∨ op = 7 ∨ op = 8 ∨ 9 ≤ op by omega) with rfl | rfl | rfl | rfl | rfl | rfl | rfl | rfl | rfl | h9
      · refine lv_tableIn (tgt := 88) (off := 49) hx hb d_L_law_39 (by decide) (by decide) (by decide) (by decide) ?_
        refine lv_aload_n hx hb d_L_law_88 rfl (lv_at hl 1 rfl) ?_
        refine lv_aload_n hx hb d_L_law_89 rfl (lv_at hl 0 rfl) ?_
        refine lv_iload hx hb d_L_law_90 (lv_at hl 4 rfl) ?_
        refine lv_iconst (v := nI 1) hx hb d_L_law_92 (by decide) ?_
        refine lv_iadd hx hb d_L_law_93 ?_
        refine lv_topi (nm_r (show _ = nI ((3 * t) + 1) from nI_add _ _) ?_)
        refine va_sld hx hb hX hbl hbA hS (vp_in_nI (by omega) (by omega)) d_L_law_94 ?_
        refine lv_topi (nm_r (show _ = xs ((3 * t) + 1) from by rw [nI_clamp (by omega)]) ?_)
        refine lv_aload_n hx hb d_L_law_95 rfl (lv_at hl 3 rfl) ?_
        refine cw_Si (wc := [(h0, .inr (0, [.ref h1, .ref h2, .int (nI nn), .int (nI pp)])), (h1, .inl (cA, 512, .inl M)), (h2, .inl (cB, 512, .inl S)), (o0, .inl (cO, 1, .inr (.inl fo)))]) (wr := [(a0, .inr (1, [.int th, .int (nI nn), .ref a1])), (a1, .inl (cM, 16385, .inl F))]) (tys' := [(cA, .int), (cB, .int), (cO, .long)]) ⟨hx, hb, hml, hown, hts⟩ hP hD hK hS hA hZ [0, 1, 2, 3] [4, 5] [0, 1, 3] rfl rfl rfl (by decide) (by decide) (by decide) rfl (cL_space l hlt dC dI h0 h1 h2 o0 cA cB cO _ M S nn pp fo g0 (xs (3 * t + 1))) (vx_cwSW 3 hts g_L_46 rfl rfl rfl (by decide +kernel) ⟨Nat.le_of_ble_eq_true rfl, Nat.le_of_ble_eq_true rfl⟩) rfl hl.1 rfl (Nat.le_of_ble_eq_true rfl) d_L_law_96 ⟨by show cs + 1 ≤ 1035; omega, by show sl + 6 ≤ 25639; omega⟩ (fun kv u H locs hw hP hD hS => ?_)
        obtain ⟨⟨n2, p2, M2, S2⟩, fo2⟩ := u
        replace hP : va_P (dC, dI) vwCl [(a0, .inr (1, [.int th, .int (nI nn), .ref a1])), (a1, .inl (cM, 16385, .inl F)), (h0, .inr (0, [.ref h1, .ref h2, .int (nI n2), .int (nI p2)])), (h1, .inl (cA, 512, .inl M2)), (h2, .inl (cB, 512, .inl S2)), (o0, .inl (cO, 1, .inr (.inl fo2)))] H := hP
        replace hD : va_D (fun q : Nat => s.heap.size ≤ q) [(a0, .inr (1, [.int th, .int (nI nn), .ref a1])), (a1, .inl (cM, 16385, .inl F)), (h0, .inr (0, [.ref h1, .ref h2, .int (nI n2), .int (nI p2)])), (h1, .inl (cA, 512, .inl M2)), (h2, .inl (cB, 512, .inl S2)), (o0, .inl (cO, 1, .inr (.inl fo2)))] := hD
        refine lv_istore (lv' := [(5, .int kv), (0, .ref b), (1, .ref h0), (2, .ref a0), (3, .ref o0), (4, .int (nI (3 * t)))]) hx hb d_L_law_99 hl (by decide) rfl (fun ls hl => ?_)
        refine lv_aload_n hx hb d_L_law_101 rfl (lv_at hl 3 rfl) ?_
        refine lv_aload_n hx hb d_L_law_102 rfl (lv_at hl 1 rfl) ?_
        refine lv_iload hx hb d_L_law_103 (lv_at hl 5 rfl) ?_
        refine lv_iconst (v := nI 1) hx hb d_L_law_105 (by decide) ?_
        refine lv_iadd hx hb d_L_law_106 ?_
        refine lv_topi (nm_r (show _ = nI ((3 * t) + 1) from nI_add _ _) ?_)
        refine va_sld hx hb hX hbl hbA hS (vp_in_nI (by omega) (by omega)) d_L_law_107 ?_
        refine lv_topi (nm_r (show _ = xs ((3 * t) + 1) from by rw [nI_clamp (by omega)]) ?_)
        refine cc_Vi (wc := [(a0, .inr (1, [.int th, .int (nI nn), .ref a1])), (a1, .inl (cM, 16385, .inl F))]) (wr := [(h0, .inr (0, [.ref h1, .ref h2, .int (nI n2), .int (nI p2)])), (h1, .inl (cA, 512, .inl M2)), (h2, .inl (cB, 512, .inl S2)), (o0, .inl (cO, 1, .inr (.inl fo2)))]) (tys' := [(cM, .boolean)]) ⟨hx, hb, hml, hown, hts⟩ hP hD hK hS hA [0, 1] [2, 3, 4, 5] [2] rfl rfl rfl (by decide) (by decide) (by decide) rfl (cM_space l dC dI a0 a1 cM _ F G nn th hF (xs (3 * t + 1)) i2 gG0 gR.2) (cwV 1 hts g_L_51 rfl rfl rfl (by decide +kernel) ⟨Nat.le_of_ble_eq_true rfl, Nat.le_of_ble_eq_true rfl⟩) 0 1 rfl rfl rfl rfl hl.1 rfl (Nat.le_of_ble_eq_true rfl) d_L_law_108 ⟨by show cs + 1 + 0 ≤ 1035; omega, by show sl + 6 + 0 ≤ 25639; omega⟩ (fun rm_ v H locs hv hP hD hS => ?_)
        obtain ⟨b2, n3, F2, G2⟩ := v
        obtain ⟨hF2, hv⟩ := hv
        dsimp only at hF2 hv
        replace hP : va_P (dC, dI) vwCl [(h0, .inr (0, [.ref h1, .ref h2, .int (nI n2), .int (nI p2)])), (h1, .inl (cA, 512, .inl M2)), (h2, .inl (cB, 512, .inl S2)), (o0, .inl (cO, 1, .inr (.inl fo2))), (a0, .inr (1, [.int (zv (!b2)), .int (nI n3), .ref a1])), (a1, .inl (cM, 16385, .inl F2))] H := hP
        replace hD : va_D (fun q : Nat => s.heap.size ≤ q) [(h0, .inr (0, [.ref h1, .ref h2, .int (nI n2), .int (nI p2)])), (h1, .inl (cA, 512, .inl M2)), (h2, .inl (cB, 512, .inl S2)), (o0, .inl (cO, 1, .inr (.inl fo2))), (a0, .inr (1, [.int (zv (!b2)), .int (nI n3), .ref a1])), (a1, .inl (cM, 16385, .inl F2))] := hD
        have hT := tie_space g0 gR hw hv
        obtain ⟨g2, en, gR2, hres⟩ := hT
        dsimp only at g2 en gR2 hres
        subst en
        replace hP : va_P (dC, dI) vwCl [(h0, .inr (0, [.ref h1, .ref h2, .int (nI n2), .int (nI p2)])), (h1, .inl (cA, 512, .inl M2)), (h2, .inl (cB, 512, .inl S2)), (o0, .inl (cO, 1, .inr (.inl fo2))), (a0, .inr (1, [.int (zv (!b2)), .int (nI n2), .ref a1])), (a1, .inl (cM, 16385, .inl F2))] H := hP
        replace hD : va_D (fun q : Nat => s.heap.size ≤ q) [(h0, .inr (0, [.ref h1, .ref h2, .int (nI n2), .int (nI p2)])), (h1, .inl (cA, 512, .inl M2)), (h2, .inl (cB, 512, .inl S2)), (o0, .inl (cO, 1, .inr (.inl fo2))), (a0, .inr (1, [.int (zv (!b2)), .int (nI n2), .ref a1])), (a1, .inl (cM, 16385, .inl F2))] := hD
        refine lv_istore (lv' := [(6, .int rm_), (5, .int kv), (0, .ref b), (1, .ref h0), (2, .ref a0), (3, .ref o0), (4, .int (nI (3 * t)))]) hx hb d_L_law_111 hl (by decide) rfl (fun ls hl => ?_)
        refine lv_aload_n hx hb d_L_law_113 rfl (lv_at hl 4 rfl) ?_
        refine cc_Vi (wc := [(a0, .inr (1, [.int (zv (!b2)), .int (nI n2), .ref a1])), (a1, .inl (cM, 16385, .inl F2))]) (wr := [(h0, .inr (0, [.ref h1, .ref h2, .int (nI n2), .int (nI p2)])), (h1, .inl (cA, 512, .inl M2)), (h2, .inl (cB, 512, .inl S2)), (o0, .inl (cO, 1, .inr (.inl fo2)))]) (tys' := [(cM, .boolean)]) ⟨hx, hb, hml, hown, hts⟩ hP hD hK hS hA [4, 5] [0, 1, 2, 3] [2] rfl rfl rfl (by decide) (by decide) (by decide) rfl (cM_thrown l dC dI a0 a1 cM _ F2 G2 n2 (zv (!b2)) hF2) (cwV 0 hts g_L_52 rfl rfl rfl (by decide +kernel) ⟨Nat.le_of_ble_eq_true rfl, Nat.le_of_ble_eq_true rfl⟩) 0 1 rfl rfl rfl rfl hl.1 rfl (Nat.le_of_ble_eq_true rfl) d_L_law_114 ⟨by show cs + 1 + 0 + 0 ≤ 1035; omega, by show sl + 6 + 0 + 0 ≤ 25639; omega⟩ (fun rt v H locs hv2 hP hD hS => ?_)
        subst hv2
        replace hP : va_P (dC, dI) vwCl [(h0, .inr (0, [.ref h1, .ref h2, .int (nI n2), .int (nI p2)])), (h1, .inl (cA, 512, .inl M2)), (h2, .inl (cB, 512, .inl S2)), (o0, .inl (cO, 1, .inr (.inl fo2))), (a0, .inr (1, [.int (zv (!b2)), .int (nI n2), .ref a1])), (a1, .inl (cM, 16385, .inl F2))] H := hP
        replace hD : va_D (fun q : Nat => s.heap.size ≤ q) [(h0, .inr (0, [.ref h1, .ref h2, .int (nI n2), .int (nI p2)])), (h1, .inl (cA, 512, .inl M2)), (h2, .inl (cB, 512, .inl S2)), (o0, .inl (cO, 1, .inr (.inl fo2))), (a0, .inr (1, [.int (zv (!b2)), .int (nI n2), .ref a1])), (a1, .inl (cM, 16385, .inl F2))] := hD
        rcases hres with ⟨rfl, rfl, eo⟩ | ⟨rfl, rfl⟩
        · refine lv_iload hx hb d_L_law_117 (lv_at hl 1 rfl) ?_
          refine lv_icmp_eq (tgt := 124) hx hb d_L_law_119 (by decide) (fun c3 => ?_) (fun c3 => ?_)
          · refine lv_iload hx hb d_L_law_124 (lv_at hl 1 rfl) ?_
            refine lv_if_ne (tgt := 141) hx hb d_L_law_126 (by decide) (fun c4 => ?_) (fun c4 => ?_)
            · replace c4 : ¬ (0 = 0) := fun h9 => c4 ((nI_eq (a := 0) (b := 0) (by omega) (by omega)).mpr h9)
              exact absurd rfl c4
            · replace c4 : 0 = 0 := (nI_eq (a := 0) (b := 0) (by omega) (by omega)).mp c4
              refine lv_aload_n hx hb d_L_law_129 rfl (lv_at hl 5 rfl) ?_
              refine lv_iconst (v := nI 0) hx hb d_L_law_130 (by decide) ?_
              refine va_lald hx hb hK hP 3 3 rfl rfl (vp_in_nI (by omega) (by decide)) d_L_law_131 ?_
              rw [nI_clamp (by omega)]
              refine lv_iload hx hb d_L_law_132 (lv_at hl 0 rfl) ?_
              refine lv_i2l (v := rm_.toInt64) hx hb d_L_law_134 rfl ?_
              refine W.lcmp hx hb d_L_law_135 ?_
              refine lv_if_eq (tgt := 141) hx hb d_L_law_136 (by decide) (fun c5 => ?_) (fun c5 => ?_)
              · refine lv_goto (tgt := 604) hx hb d_L_law_141 (by decide) ?_
                refine lv_iinc (v := nI ((3 * t) + 3)) (lv' := [(4, .int (nI ((3 * t) + 3))), (6, .int rm_), (5, .int (nI 0)), (0, .ref b), (1, .ref h0), (2, .ref a0), (3, .ref o0)]) hx hb d_L_law_604 hl (k := 6) rfl (nI_add _ _) (by decide) rfl (fun ls hl => ?_)
                refine lv_goto (tgt := 23) hx hb d_L_law_607 (by decide) ?_
                exact ih (t + 1) n2 p2 M2 S2 fo2 (zv (!true)) F2 G2 (by omega) (by omega) g2 hF2 gR2 _ _ _ _ (by omega) (by omega) hP hD hS ls (lv_sub hl [3, 4, 5, 6, 0] rfl)
              · exact absurd (by (rw [eo]; exact z_cmp _)) c5
          · exact absurd rfl c3
        · refine lv_iload hx hb d_L_law_117 (lv_at hl 1 rfl) ?_
          refine lv_icmp_eq (tgt := 124) hx hb d_L_law_119 (by decide) (fun c3 => ?_) (fun c3 => ?_)
          · refine lv_iload hx hb d_L_law_124 (lv_at hl 1 rfl) ?_
            refine lv_if_ne (tgt := 141) hx hb d_L_law_126 (by decide) (fun c4 => ?_) (fun c4 => ?_)
            · replace c4 : ¬ (1 = 0) := fun h9 => c4 ((nI_eq (a := 1) (b := 0) (by omega) (by omega)).mpr h9)
              refine lv_goto (tgt := 604) hx hb d_L_law_141 (by decide) ?_
              refine lv_iinc (v := nI ((3 * t) + 3)) (lv' := [(4, .int (nI ((3 * t) + 3))), (6, .int rm_), (5, .int (nI 1)), (0, .ref b), (1, .ref h0), (2, .ref a0), (3, .ref o0)]) hx hb d_L_law_604 hl (k := 6) rfl (nI_add _ _) (by decide) rfl (fun ls hl => ?_)
              refine lv_goto (tgt := 23) hx hb d_L_law_607 (by decide) ?_
              exact ih (t + 1) n2 p2 M2 S2 fo2 (zv (!false)) F2 G2 (by omega) (by omega) g2 hF2 gR2 _ _ _ _ (by omega) (by omega) hP hD hS ls (lv_sub hl [3, 4, 5, 6, 0] rfl)
            · replace c4 : 1 = 0 := (nI_eq (a := 1) (b := 0) (by omega) (by omega)).mp c4
              exact absurd c4 (by decide)
          · exact absurd rfl c3
      · refine lv_tableIn (tgt := 144) (off := 105) hx hb d_L_law_39 (by decide) (by decide) (by decide) (by decide) ?_
        refine lv_aload_n hx hb d_L_law_144 rfl (lv_at hl 1 rfl) ?_
        refine lv_aload_n hx hb d_L_law_145 rfl (lv_at hl 0 rfl) ?_
        refine lv_iload hx hb d_L_law_146 (lv_at hl 4 rfl) ?_
        refine lv_iconst (v := nI 1) hx hb d_L_law_148 (by decide) ?_
        refine lv_iadd hx hb d_L_law_149 ?_
        refine lv_topi (nm_r (show _ = nI ((3 * t) + 1) from nI_add _ _) ?_)
        refine va_sld hx hb hX hbl hbA hS (vp_in_nI (by omega) (by omega)) d_L_law_150 ?_
        refine lv_topi (nm_r (show _ = xs ((3 * t) + 1) from by rw [nI_clamp (by omega)]) ?_)
        refine lv_aload_n hx hb d_L_law_151 rfl (lv_at hl 3 rfl) ?_
        refine cw_Si (wc := [(h0, .inr (0, [.ref h1, .ref h2, .int (nI nn), .int (nI pp)])), (h1, .inl (cA, 512, .inl M)), (h2, .inl (cB, 512, .inl S)), (o0, .inl (cO, 1, .inr (.inl fo)))]) (wr := [(a0, .inr (1, [.int th, .int (nI nn), .ref a1])), (a1, .inl (cM, 16385, .inl F))]) (tys' := [(cA, .int), (cB, .int), (cO, .long)]) ⟨hx, hb, hml, hown, hts⟩ hP hD hK hS hA hZ [0, 1, 2, 3] [4, 5] [0, 1, 3] rfl rfl rfl (by decide) (by decide) (by decide) rfl (cL_cut l hlt dC dI h0 h1 h2 o0 cA cB cO _ M S nn pp fo g0 (xs (3 * t + 1))) (vx_cwSW 3 hts g_L_56 rfl rfl rfl (by decide +kernel) ⟨Nat.le_of_ble_eq_true rfl, Nat.le_of_ble_eq_true rfl⟩) rfl hl.1 rfl (Nat.le_of_ble_eq_true rfl) d_L_law_152 ⟨by show cs + 1 ≤ 1035; omega, by show sl + 6 ≤ 25639; omega⟩ (fun kv u H locs hw hP hD hS => ?_)
        obtain ⟨⟨n2, p2, M2, S2⟩, fo2⟩ := u
        replace hP : va_P (dC, dI) vwCl [(a0, .inr (1, [.int th, .int (nI nn), .ref a1])), (a1, .inl (cM, 16385, .inl F)), (h0, .inr (0, [.ref h1, .ref h2, .int (nI n2), .int (nI p2)])), (h1, .inl (cA, 512, .inl M2)), (h2, .inl (cB, 512, .inl S2)), (o0, .inl (cO, 1, .inr (.inl fo2)))] H := hP
        replace hD : va_D (fun q : Nat => s.heap.size ≤ q) [(a0, .inr (1, [.int th, .int (nI nn), .ref a1])), (a1, .inl (cM, 16385, .inl F)), (h0, .inr (0, [.ref h1, .ref h2, .int (nI n2), .int (nI p2)])), (h1, .inl (cA, 512, .inl M2)), (h2, .inl (cB, 512, .inl S2)), (o0, .inl (cO, 1, .inr (.inl fo2)))] := hD
        refine lv_istore (lv' := [(5, .int kv), (0, .ref b), (1, .ref h0), (2, .ref a0), (3, .ref o0), (4, .int (nI (3 * t)))]) hx hb d_L_law_155 hl (by decide) rfl (fun ls hl => ?_)
        refine lv_aload_n hx hb d_L_law_157 rfl (lv_at hl 3 rfl) ?_
        refine lv_aload_n hx hb d_L_law_158 rfl (lv_at hl 1 rfl) ?_
        refine lv_iload hx hb d_L_law_159 (lv_at hl 5 rfl) ?_
        refine lv_iconst (v := nI 1) hx hb d_L_law_161 (by decide) ?_
        refine lv_iadd hx hb d_L_law_162 ?_
        refine lv_topi (nm_r (show _ = nI ((3 * t) + 1) from nI_add _ _) ?_)
        refine va_sld hx hb hX hbl hbA hS (vp_in_nI (by omega) (by omega)) d_L_law_163 ?_
        refine lv_topi (nm_r (show _ = xs ((3 * t) + 1) from by rw [nI_clamp (by omega)]) ?_)
        refine cc_Vi (wc := [(a0, .inr (1, [.int th, .int (nI nn), .ref a1])), (a1, .inl (cM, 16385, .inl F))]) (wr := [(h0, .inr (0, [.ref h1, .ref h2, .int (nI n2), .int (nI p2)])), (h1, .inl (cA, 512, .inl M2)), (h2, .inl (cB, 512, .inl S2)), (o0, .inl (cO, 1, .inr (.inl fo2)))]) (tys' := [(cM, .boolean)]) ⟨hx, hb, hml, hown, hts⟩ hP hD hK hS hA [0, 1] [2, 3, 4, 5] [2] rfl rfl rfl (by decide) (by decide) (by decide) rfl (cM_cut l dC dI a0 a1 cM _ F G nn th hF (xs (3 * t + 1)) i2 gG0 gR.2) (cwV 1 hts g_L_58 rfl rfl rfl (by decide +kernel) ⟨Nat.le_of_ble_eq_true rfl, Nat.le_of_ble_eq_true rfl⟩) 0 1 rfl rfl rfl rfl hl.1 rfl (Nat.le_of_ble_eq_true rfl) d_L_law_164 ⟨by show cs + 1 + 0 ≤ 1035; omega, by show sl + 6 + 0 ≤ 25639; omega⟩ (fun rm_ v H locs hv hP hD hS => ?_)
        obtain ⟨b2, F2, G2⟩ := v
        obtain ⟨hF2, hv⟩ := hv
        dsimp only at hF2 hv
        replace hP : va_P (dC, dI) vwCl [(h0, .inr (0, [.ref h1, .ref h2, .int (nI n2), .int (nI p2)])), (h1, .inl (cA, 512, .inl M2)), (h2, .inl (cB, 512, .inl S2)), (o0, .inl (cO, 1, .inr (.inl fo2))), (a0, .inr (1, [.int (zv (!b2)), .int (nI nn), .ref a1])), (a1, .inl (cM, 16385, .inl F2))] H := hP
        replace hD : va_D (fun q : Nat => s.heap.size ≤ q) [(h0, .inr (0, [.ref h1, .ref h2, .int (nI n2), .int (nI p2)])), (h1, .inl (cA, 512, .inl M2)), (h2, .inl (cB, 512, .inl S2)), (o0, .inl (cO, 1, .inr (.inl fo2))), (a0, .inr (1, [.int (zv (!b2)), .int (nI nn), .ref a1])), (a1, .inl (cM, 16385, .inl F2))] := hD
        have hT := tie_cut g0 gR hw hv
        obtain ⟨g2, en, gR2, hres⟩ := hT
        dsimp only at g2 en gR2 hres
        subst en
        replace hP : va_P (dC, dI) vwCl [(h0, .inr (0, [.ref h1, .ref h2, .int (nI n2), .int (nI p2)])), (h1, .inl (cA, 512, .inl M2)), (h2, .inl (cB, 512, .inl S2)), (o0, .inl (cO, 1, .inr (.inl fo2))), (a0, .inr (1, [.int (zv (!b2)), .int (nI n2), .ref a1])), (a1, .inl (cM, 16385, .inl F2))] H := hP
        replace hD : va_D (fun q : Nat => s.heap.size ≤ q) [(h0, .inr (0, [.ref h1, .ref h2, .int (nI n2), .int (nI p2)])), (h1, .inl (cA, 512, .inl M2)), (h2, .inl (cB, 512, .inl S2)), (o0, .inl (cO, 1, .inr (.inl fo2))), (a0, .inr (1, [.int (zv (!b2)), .int (nI n2), .ref a1])), (a1, .inl (cM, 16385, .inl F2))] := hD
        refine lv_istore (lv' := [(6, .int rm_), (5, .int kv), (0, .ref b), (1, .ref h0), (2, .ref a0), (3, .ref o0), (4, .int (nI (3 * t)))]) hx hb d_L_law_167 hl (by decide) rfl (fun ls hl => ?_)
        refine lv_aload_n hx hb d_L_law_169 rfl (lv_at hl 4 rfl) ?_
        refine cc_Vi (wc := [(a0, .inr (1, [.int (zv (!b2)), .int (nI n2), .ref a1])), (a1, .inl (cM, 16385, .inl F2))]) (wr := [(h0, .inr (0, [.ref h1, .ref h2, .int (nI n2), .int (nI p2)])), (h1, .inl (cA, 512, .inl M2)), (h2, .inl (cB, 512, .inl S2)), (o0, .inl (cO, 1, .inr (.inl fo2)))]) (tys' := [(cM, .boolean)]) ⟨hx, hb, hml, hown, hts⟩ hP hD hK hS hA [4, 5] [0, 1, 2, 3] [2] rfl rfl rfl (by decide) (by decide) (by decide) rfl (cM_thrown l dC dI a0 a1 cM _ F2 G2 n2 (zv (!b2)) hF2) (cwV 0 hts g_L_52 rfl rfl rfl (by decide +kernel) ⟨Nat.le_of_ble_eq_true rfl, Nat.le_of_ble_eq_true rfl⟩) 0 1 rfl rfl rfl rfl hl.1 rfl (Nat.le_of_ble_eq_true rfl) d_L_law_170 ⟨by show cs + 1 + 0 + 0 ≤ 1035; omega, by show sl + 6 + 0 + 0 ≤ 25639; omega⟩ (fun rt v H locs hv2 hP hD hS => ?_)
        subst hv2
        replace hP : va_P (dC, dI) vwCl [(h0, .inr (0, [.ref h1, .ref h2, .int (nI n2), .int (nI p2)])), (h1, .inl (cA, 512, .inl M2)), (h2, .inl (cB, 512, .inl S2)), (o0, .inl (cO, 1, .inr (.inl fo2))), (a0, .inr (1, [.int (zv (!b2)), .int (nI n2), .ref a1])), (a1, .inl (cM, 16385, .inl F2))] H := hP
        replace hD : va_D (fun q : Nat => s.heap.size ≤ q) [(h0, .inr (0, [.ref h1, .ref h2, .int (nI n2), .int (nI p2)])), (h1, .inl (cA, 512, .inl M2)), (h2, .inl (cB, 512, .inl S2)), (o0, .inl (cO, 1, .inr (.inl fo2))), (a0, .inr (1, [.int (zv (!b2)), .int (nI n2), .ref a1])), (a1, .inl (cM, 16385, .inl F2))] := hD
        rcases hres with ⟨rfl, rfl, eo⟩ | ⟨rfl, rfl⟩
        · refine lv_iload hx hb d_L_law_173 (lv_at hl 1 rfl) ?_
          refine lv_icmp_eq (tgt := 180) hx hb d_L_law_175 (by decide) (fun c3 => ?_) (fun c3 => ?_)
          · refine lv_iload hx hb d_L_law_180 (lv_at hl 1 rfl) ?_
            refine lv_if_ne (tgt := 197) hx hb d_L_law_182 (by decide) (fun c4 => ?_) (fun c4 => ?_)
            · replace c4 : ¬ (0 = 0) := fun h9 => c4 ((nI_eq (a := 0) (b := 0) (by omega) (by omega)).mpr h9)
              exact absurd rfl c4
            · replace c4 : 0 = 0 := (nI_eq (a := 0) (b := 0) (by omega) (by omega)).mp c4
              refine lv_aload_n hx hb d_L_law_185 rfl (lv_at hl 5 rfl) ?_
              refine lv_iconst (v := nI 0) hx hb d_L_law_186 (by decide) ?_
              refine va_lald hx hb hK hP 3 3 rfl rfl (vp_in_nI (by omega) (by decide)) d_L_law_187 ?_
              rw [nI_clamp (by omega)]
              refine lv_iload hx hb d_L_law_188 (lv_at hl 0 rfl) ?_
              refine lv_i2l (v := rm_.toInt64) hx hb d_L_law_190 rfl ?_
              refine W.lcmp hx hb d_L_law_191 ?_
              refine lv_if_eq (tgt := 197) hx hb d_L_law_192 (by decide) (fun c5 => ?_) (fun c5 => ?_)
              · refine lv_goto (tgt := 604) hx hb d_L_law_197 (by decide) ?_
                refine lv_iinc (v := nI ((3 * t) + 3)) (lv' := [(4, .int (nI ((3 * t) + 3))), (6, .int rm_), (5, .int (nI 0)), (0, .ref b), (1, .ref h0), (2, .ref a0), (3, .ref o0)]) hx hb d_L_law_604 hl (k := 6) rfl (nI_add _ _) (by decide) rfl (fun ls hl => ?_)
                refine lv_goto (tgt := 23) hx hb d_L_law_607 (by decide) ?_
                exact ih (t + 1) n2 p2 M2 S2 fo2 (zv (!true)) F2 G2 (by omega) (by omega) g2 hF2 gR2 _ _ _ _ (by omega) (by omega) hP hD hS ls (lv_sub hl [3, 4, 5, 6, 0] rfl)
              · exact absurd (by (rw [eo]; exact z_cmp _)) c5
          · exact absurd rfl c3
        · refine lv_iload hx hb d_L_law_173 (lv_at hl 1 rfl) ?_
          refine lv_icmp_eq (tgt := 180) hx hb d_L_law_175 (by decide) (fun c3 => ?_) (fun c3 => ?_)
          · refine lv_iload hx hb d_L_law_180 (lv_at hl 1 rfl) ?_
            refine lv_if_ne (tgt := 197) hx hb d_L_law_182 (by decide) (fun c4 => ?_) (fun c4 => ?_)
            · replace c4 : ¬ (1 = 0) := fun h9 => c4 ((nI_eq (a := 1) (b := 0) (by omega) (by omega)).mpr h9)
              refine lv_goto (tgt := 604) hx hb d_L_law_197 (by decide) ?_
              refine lv_iinc (v := nI ((3 * t) + 3)) (lv' := [(4, .int (nI ((3 * t) + 3))), (6, .int rm_), (5, .int (nI 1)), (0, .ref b), (1, .ref h0), (2, .ref a0), (3, .ref o0)]) hx hb d_L_law_604 hl (k := 6) rfl (nI_add _ _) (by decide) rfl (fun ls hl => ?_)
              refine lv_goto (tgt := 23) hx hb d_L_law_607 (by decide) ?_
              exact ih (t + 1) n2 p2 M2 S2 fo2 (zv (!false)) F2 G2 (by omega) (by omega) g2 hF2 gR2 _ _ _ _ (by omega) (by omega) hP hD hS ls (lv_sub hl [3, 4, 5, 6, 0] rfl)
            · replace c4 : 1 = 0 := (nI_eq (a := 1) (b := 0) (by omega) (by omega)).mp c4
              exact absurd c4 (by decide)
          · exact absurd rfl c3
      · refine lv_tableIn (tgt := 200) (off := 161) hx hb d_L_law_39 (by decide) (by decide) (by decide) (by decide) ?_
        refine lv_aload_n hx hb d_L_law_200 rfl (lv_at hl 1 rfl) ?_
        refine lv_aload_n hx hb d_L_law_201 rfl (lv_at hl 0 rfl) ?_
        refine lv_iload hx hb d_L_law_202 (lv_at hl 4 rfl) ?_
        refine lv_iconst (v := nI 1) hx hb d_L_law_204 (by decide) ?_
        refine lv_iadd hx hb d_L_law_205 ?_
        refine lv_topi (nm_r (show _ = nI ((3 * t) + 1) from nI_add _ _) ?_)
        refine va_sld hx hb hX hbl hbA hS (vp_in_nI (by omega) (by omega)) d_L_law_206 ?_
        refine lv_topi (nm_r (show _ = xs ((3 * t) + 1) from by rw [nI_clamp (by omega)]) ?_)
        refine lv_aload_n hx hb d_L_law_207 rfl (lv_at hl 3 rfl) ?_
        refine cw_Si (wc := [(h0, .inr (0, [.ref h1, .ref h2, .int (nI nn), .int (nI pp)])), (h1, .inl (cA, 512, .inl M)), (h2, .inl (cB, 512, .inl S)), (o0, .inl (cO, 1, .inr (.inl fo)))]) (wr := [(a0, .inr (1, [.int th, .int (nI nn), .ref a1])), (a1, .inl (cM, 16385, .inl F))]) (tys' := [(cA, .int), (cB, .int), (cO, .long)]) ⟨hx, hb, hml, hown, hts⟩ hP hD hK hS hA hZ [0, 1, 2, 3] [4, 5] [0, 1, 3] rfl rfl rfl (by decide) (by decide) (by decide) rfl (cL_join l hlt dC dI h0 h1 h2 o0 cA cB cO _ M S nn pp fo g0 (xs (3 * t + 1))) (vx_cwSW 3 hts g_L_59 rfl rfl rfl (by decide +kernel) ⟨Nat.le_of_ble_eq_true rfl, Nat.le_of_ble_eq_true rfl⟩) rfl hl.1 rfl (Nat.le_of_ble_eq_true rfl) d_L_law_208 ⟨by show cs + 1 ≤ 1035; omega, by show sl + 6 ≤ 25639; omega⟩ (fun kv u H locs hw hP hD hS => ?_)
        obtain ⟨⟨n2, p2, M2, S2⟩, fo2⟩ := u
        replace hP : va_P (dC, dI) vwCl [(a0, .inr (1, [.int th, .int (nI nn), .ref a1])), (a1, .inl (cM, 16385, .inl F)), (h0, .inr (0, [.ref h1, .ref h2, .int (nI n2), .int (nI p2)])), (h1, .inl (cA, 512, .inl M2)), (h2, .inl (cB, 512, .inl S2)), (o0, .inl (cO, 1, .inr (.inl fo2)))] H := hP
        replace hD : va_D (fun q : Nat => s.heap.size ≤ q) [(a0, .inr (1, [.int th, .int (nI nn), .ref a1])), (a1, .inl (cM, 16385, .inl F)), (h0, .inr (0, [.ref h1, .ref h2, .int (nI n2), .int (nI p2)])), (h1, .inl (cA, 512, .inl M2)), (h2, .inl (cB, 512, .inl S2)), (o0, .inl (cO, 1, .inr (.inl fo2)))] := hD
        refine lv_istore (lv' := [(5, .int kv), (0, .ref b), (1, .ref h0), (2, .ref a0), (3, .ref o0), (4, .int (nI (3 * t)))]) hx hb d_L_law_211 hl (by decide) rfl (fun ls hl => ?_)
        refine lv_aload_n hx hb d_L_law_213 rfl (lv_at hl 3 rfl) ?_
        refine lv_aload_n hx hb d_L_law_214 rfl (lv_at hl 1 rfl) ?_
        refine lv_iload hx hb d_L_law_215 (lv_at hl 5 rfl) ?_
        refine lv_iconst (v := nI 1) hx hb d_L_law_217 (by decide) ?_
        refine lv_iadd hx hb d_L_law_218 ?_
        refine lv_topi (nm_r (show _ = nI ((3 * t) + 1) from nI_add _ _) ?_)
        refine va_sld hx hb hX hbl hbA hS (vp_in_nI (by omega) (by omega)) d_L_law_219 ?_
        refine lv_topi (nm_r (show _ = xs ((3 * t) + 1) from by rw [nI_clamp (by omega)]) ?_)
        refine cc_Vi (wc := [(a0, .inr (1, [.int th, .int (nI nn), .ref a1])), (a1, .inl (cM, 16385, .inl F))]) (wr := [(h0, .inr (0, [.ref h1, .ref h2, .int (nI n2), .int (nI p2)])), (h1, .inl (cA, 512, .inl M2)), (h2, .inl (cB, 512, .inl S2)), (o0, .inl (cO, 1, .inr (.inl fo2)))]) (tys' := [(cM, .boolean)]) ⟨hx, hb, hml, hown, hts⟩ hP hD hK hS hA [0, 1] [2, 3, 4, 5] [2] rfl rfl rfl (by decide) (by decide) (by decide) rfl (cM_join l dC dI a0 a1 cM _ F G nn th hF (xs (3 * t + 1)) i2 gG0 gR.2) (cwV 1 hts g_L_61 rfl rfl rfl (by decide +kernel) ⟨Nat.le_of_ble_eq_true rfl, Nat.le_of_ble_eq_true rfl⟩) 0 1 rfl rfl rfl rfl hl.1 rfl (Nat.le_of_ble_eq_true rfl) d_L_law_220 ⟨by show cs + 1 + 0 ≤ 1035; omega, by show sl + 6 + 0 ≤ 25639; omega⟩ (fun rm_ v H locs hv hP hD hS => ?_)
        obtain ⟨b2, F2, G2⟩ := v
        obtain ⟨hF2, hv⟩ := hv
        dsimp only at hF2 hv
        replace hP : va_P (dC, dI) vwCl [(h0, .inr (0, [.ref h1, .ref h2, .int (nI n2), .int (nI p2)])), (h1, .inl (cA, 512, .inl M2)), (h2, .inl (cB, 512, .inl S2)), (o0, .inl (cO, 1, .inr (.inl fo2))), (a0, .inr (1, [.int (zv (!b2)), .int (nI nn), .ref a1])), (a1, .inl (cM, 16385, .inl F2))] H := hP
        replace hD : va_D (fun q : Nat => s.heap.size ≤ q) [(h0, .inr (0, [.ref h1, .ref h2, .int (nI n2), .int (nI p2)])), (h1, .inl (cA, 512, .inl M2)), (h2, .inl (cB, 512, .inl S2)), (o0, .inl (cO, 1, .inr (.inl fo2))), (a0, .inr (1, [.int (zv (!b2)), .int (nI nn), .ref a1])), (a1, .inl (cM, 16385, .inl F2))] := hD
        have hT := tie_join g0 gR hw hv
        obtain ⟨g2, en, gR2, hres⟩ := hT
        dsimp only at g2 en gR2 hres
        subst en
        replace hP : va_P (dC, dI) vwCl [(h0, .inr (0, [.ref h1, .ref h2, .int (nI n2), .int (nI p2)])), (h1, .inl (cA, 512, .inl M2)), (h2, .inl (cB, 512, .inl S2)), (o0, .inl (cO, 1, .inr (.inl fo2))), (a0, .inr (1, [.int (zv (!b2)), .int (nI n2), .ref a1])), (a1, .inl (cM, 16385, .inl F2))] H := hP
        replace hD : va_D (fun q : Nat => s.heap.size ≤ q) [(h0, .inr (0, [.ref h1, .ref h2, .int (nI n2), .int (nI p2)])), (h1, .inl (cA, 512, .inl M2)), (h2, .inl (cB, 512, .inl S2)), (o0, .inl (cO, 1, .inr (.inl fo2))), (a0, .inr (1, [.int (zv (!b2)), .int (nI n2), .ref a1])), (a1, .inl (cM, 16385, .inl F2))] := hD
        refine lv_istore (lv' := [(6, .int rm_), (5, .int kv), (0, .ref b), (1, .ref h0), (2, .ref a0), (3, .ref o0), (4, .int (nI (3 * t)))]) hx hb d_L_law_223 hl (by decide) rfl (fun ls hl => ?_)
        refine lv_aload_n hx hb d_L_law_225 rfl (lv_at hl 4 rfl) ?_
        refine cc_Vi (wc := [(a0, .inr (1, [.int (zv (!b2)), .int (nI n2), .ref a1])), (a1, .inl (cM, 16385, .inl F2))]) (wr := [(h0, .inr (0, [.ref h1, .ref h2, .int (nI n2), .int (nI p2)])), (h1, .inl (cA, 512, .inl M2)), (h2, .inl (cB, 512, .inl S2)), (o0, .inl (cO, 1, .inr (.inl fo2)))]) (tys' := [(cM, .boolean)]) ⟨hx, hb, hml, hown, hts⟩ hP hD hK hS hA [4, 5] [0, 1, 2, 3] [2] rfl rfl rfl (by decide) (by decide) (by decide) rfl (cM_thrown l dC dI a0 a1 cM _ F2 G2 n2 (zv (!b2)) hF2) (cwV 0 hts g_L_52 rfl rfl rfl (by decide +kernel) ⟨Nat.le_of_ble_eq_true rfl, Nat.le_of_ble_eq_true rfl⟩) 0 1 rfl rfl rfl rfl hl.1 rfl (Nat.le_of_ble_eq_true rfl) d_L_law_226 ⟨by show cs + 1 + 0 + 0 ≤ 1035; omega, by show sl + 6 + 0 + 0 ≤ 25639; omega⟩ (fun rt v H locs hv2 hP hD hS => ?_)
        subst hv2
        replace hP : va_P (dC, dI) vwCl [(h0, .inr (0, [.ref h1, .ref h2, .int (nI n2), .int (nI p2)])), (h1, .inl (cA, 512, .inl M2)), (h2, .inl (cB, 512, .inl S2)), (o0, .inl (cO, 1, .inr (.inl fo2))), (a0, .inr (1, [.int (zv (!b2)), .int (nI n2), .ref a1])), (a1, .inl (cM, 16385, .inl F2))] H := hP
        replace hD : va_D (fun q : Nat => s.heap.size ≤ q) [(h0, .inr (0, [.ref h1, .ref h2, .int (nI n2), .int (nI p2)])), (h1, .inl (cA, 512, .inl M2)), (h2, .inl (cB, 512, .inl S2)), (o0, .inl (cO, 1, .inr (.inl fo2))), (a0, .inr (1, [.int (zv (!b2)), .int (nI n2), .ref a1])), (a1, .inl (cM, 16385, .inl F2))] := hD
        rcases hres with ⟨rfl, rfl, eo⟩ | ⟨rfl, rfl⟩
        · refine lv_iload hx hb d_L_law_229 (lv_at hl 1 rfl) ?_
          refine lv_icmp_eq (tgt := 236) hx hb d_L_law_231 (by decide) (fun c3 => ?_) (fun c3 => ?_)
          · refine lv_iload hx hb d_L_law_236 (lv_at hl 1 rfl) ?_
            refine lv_if_ne (tgt := 253) hx hb d_L_law_238 (by decide) (fun c4 => ?_) (fun c4 => ?_)
            · replace c4 : ¬ (0 = 0) := fun h9 => c4 ((nI_eq (a := 0) (b := 0) (by omega) (by omega)).mpr h9)
              exact absurd rfl c4
            · replace c4 : 0 = 0 := (nI_eq (a := 0) (b := 0) (by omega) (by omega)).mp c4
              refine lv_aload_n hx hb d_L_law_241 rfl (lv_at hl 5 rfl) ?_
              refine lv_iconst (v := nI 0) hx hb d_L_law_242 (by decide) ?_
              refine va_lald hx hb hK hP 3 3 rfl rfl (vp_in_nI (by omega) (by decide)) d_L_law_243 ?_
              rw [nI_clamp (by omega)]
              refine lv_iload hx hb d_L_law_244 (lv_at hl 0 rfl) ?_
              refine lv_i2l (v := rm_.toInt64) hx hb d_L_law_246 rfl ?_
              refine W.lcmp hx hb d_L_law_247 ?_
              refine lv_if_eq (tgt := 253) hx hb d_L_law_248 (by decide) (fun c5 => ?_) (fun c5 => ?_)
              · refine lv_goto (tgt := 604) hx hb d_L_law_253 (by decide) ?_
                refine lv_iinc (v := nI ((3 * t) + 3)) (lv' := [(4, .int (nI ((3 * t) + 3))), (6, .int rm_), (5, .int (nI 0)), (0, .ref b), (1, .ref h0), (2, .ref a0), (3, .ref o0)]) hx hb d_L_law_604 hl (k := 6) rfl (nI_add _ _) (by decide) rfl (fun ls hl => ?_)
                refine lv_goto (tgt := 23) hx hb d_L_law_607 (by decide) ?_
                exact ih (t + 1) n2 p2 M2 S2 fo2 (zv (!true)) F2 G2 (by omega) (by omega) g2 hF2 gR2 _ _ _ _ (by omega) (by omega) hP hD hS ls (lv_sub hl [3, 4, 5, 6, 0] rfl)
              · exact absurd (by (rw [eo]; exact z_cmp _)) c5
          · exact absurd rfl c3
        · refine lv_iload hx hb d_L_law_229 (lv_at hl 1 rfl) ?_
          refine lv_icmp_eq (tgt := 236) hx hb d_L_law_231 (by decide) (fun c3 => ?_) (fun c3 => ?_)
          · refine lv_iload hx hb d_L_law_236 (lv_at hl 1 rfl) ?_
            refine lv_if_ne (tgt := 253) hx hb d_L_law_238 (by decide) (fun c4 => ?_) (fun c4 => ?_)
            · replace c4 : ¬ (1 = 0) := fun h9 => c4 ((nI_eq (a := 1) (b := 0) (by omega) (by omega)).mpr h9)
              refine lv_goto (tgt := 604) hx hb d_L_law_253 (by decide) ?_
              refine lv_iinc (v := nI ((3 * t) + 3)) (lv' := [(4, .int (nI ((3 * t) + 3))), (6, .int rm_), (5, .int (nI 1)), (0, .ref b), (1, .ref h0), (2, .ref a0), (3, .ref o0)]) hx hb d_L_law_604 hl (k := 6) rfl (nI_add _ _) (by decide) rfl (fun ls hl => ?_)
              refine lv_goto (tgt := 23) hx hb d_L_law_607 (by decide) ?_
              exact ih (t + 1) n2 p2 M2 S2 fo2 (zv (!false)) F2 G2 (by omega) (by omega) g2 hF2 gR2 _ _ _ _ (by omega) (by omega) hP hD hS ls (lv_sub hl [3, 4, 5, 6, 0] rfl)
            · replace c4 : 1 = 0 := (nI_eq (a := 1) (b := 0) (by omega) (by omega)).mp c4
              exact absurd c4 (by decide)
          · exact absurd rfl c3
      · refine lv_tableIn (tgt := 256) (off := 217) hx hb d_L_law_39 (by decide) (by decide) (by decide) (by decide) ?_
        refine lv_aload_n hx hb d_L_law_256 rfl (lv_at hl 1 rfl) ?_
        refine lv_aload_n hx hb d_L_law_257 rfl (lv_at hl 0 rfl) ?_
        refine lv_iload hx hb d_L_law_258 (lv_at hl 4 rfl) ?_
        refine lv_iconst (v := nI 1) hx hb d_L_law_260 (by decide) ?_
        refine lv_iadd hx hb d_L_law_261 ?_
        refine lv_topi (nm_r (show _ = nI ((3 * t) + 1) from nI_add _ _) ?_)
        refine va_sld hx hb hX hbl hbA hS (vp_in_nI (by omega) (by omega)) d_L_law_262 ?_
        refine lv_topi (nm_r (show _ = xs ((3 * t) + 1) from by rw [nI_clamp (by omega)]) ?_)
        refine lv_aload_n hx hb d_L_law_263 rfl (lv_at hl 0 rfl) ?_
        refine lv_iload hx hb d_L_law_264 (lv_at hl 4 rfl) ?_
        refine lv_iconst (v := nI 2) hx hb d_L_law_266 (by decide) ?_
        refine lv_iadd hx hb d_L_law_267 ?_
        refine lv_topi (nm_r (show _ = nI ((3 * t) + 2) from nI_add _ _) ?_)
        refine va_sld hx hb hX hbl hbA hS (vp_in_nI (by omega) (by omega)) d_L_law_268 ?_
        refine lv_topi (nm_r (show _ = xs ((3 * t) + 2) from by rw [nI_clamp (by omega)]) ?_)
        refine lv_aload_n hx hb d_L_law_269 rfl (lv_at hl 3 rfl) ?_
        refine cw_Si (wc := [(h0, .inr (0, [.ref h1, .ref h2, .int (nI nn), .int (nI pp)])), (h1, .inl (cA, 512, .inl M)), (h2, .inl (cB, 512, .inl S)), (o0, .inl (cO, 1, .inr (.inl fo)))]) (wr := [(a0, .inr (1, [.int th, .int (nI nn), .ref a1])), (a1, .inl (cM, 16385, .inl F))]) (tys' := [(cA, .int), (cB, .int), (cO, .long)]) ⟨hx, hb, hml, hown, hts⟩ hP hD hK hS hA hZ [0, 1, 2, 3] [4, 5] [0, 1, 3] rfl rfl rfl (by decide) (by decide) (by decide) rfl (cL_make l hlt dC dI h0 h1 h2 o0 cA cB cO _ M S nn pp fo g0 (xs (3 * t + 1)) (xs (3 * t + 2))) (vx_cwSW 4 hts g_L_62 rfl rfl rfl (by decide +kernel) ⟨Nat.le_of_ble_eq_true rfl, Nat.le_of_ble_eq_true rfl⟩) rfl hl.1 rfl (Nat.le_of_ble_eq_true rfl) d_L_law_270 ⟨by show cs + 2 ≤ 1035; omega, by show sl + 12 ≤ 25639; omega⟩ (fun kv u H locs hw hP hD hS => ?_)
        obtain ⟨⟨n2, p2, M2, S2⟩, fo2⟩ := u
        replace hP : va_P (dC, dI) vwCl [(a0, .inr (1, [.int th, .int (nI nn), .ref a1])), (a1, .inl (cM, 16385, .inl F)), (h0, .inr (0, [.ref h1, .ref h2, .int (nI n2), .int (nI p2)])), (h1, .inl (cA, 512, .inl M2)), (h2, .inl (cB, 512, .inl S2)), (o0, .inl (cO, 1, .inr (.inl fo2)))] H := hP
        replace hD : va_D (fun q : Nat => s.heap.size ≤ q) [(a0, .inr (1, [.int th, .int (nI nn), .ref a1])), (a1, .inl (cM, 16385, .inl F)), (h0, .inr (0, [.ref h1, .ref h2, .int (nI n2), .int (nI p2)])), (h1, .inl (cA, 512, .inl M2)), (h2, .inl (cB, 512, .inl S2)), (o0, .inl (cO, 1, .inr (.inl fo2)))] := hD
        refine lv_istore (lv' := [(5, .int kv), (0, .ref b), (1, .ref h0), (2, .ref a0), (3, .ref o0), (4, .int (nI (3 * t)))]) hx hb d_L_law_273 hl (by decide) rfl (fun ls hl => ?_)
        refine lv_aload_n hx hb d_L_law_275 rfl (lv_at hl 3 rfl) ?_
        refine lv_aload_n hx hb d_L_law_276 rfl (lv_at hl 1 rfl) ?_
        refine lv_iload hx hb d_L_law_277 (lv_at hl 5 rfl) ?_
        refine lv_iconst (v := nI 1) hx hb d_L_law_279 (by decide) ?_
        refine lv_iadd hx hb d_L_law_280 ?_
        refine lv_topi (nm_r (show _ = nI ((3 * t) + 1) from nI_add _ _) ?_)
        refine va_sld hx hb hX hbl hbA hS (vp_in_nI (by omega) (by omega)) d_L_law_281 ?_
        refine lv_topi (nm_r (show _ = xs ((3 * t) + 1) from by rw [nI_clamp (by omega)]) ?_)
        refine lv_aload_n hx hb d_L_law_282 rfl (lv_at hl 1 rfl) ?_
        refine lv_iload hx hb d_L_law_283 (lv_at hl 5 rfl) ?_
        refine lv_iconst (v := nI 2) hx hb d_L_law_285 (by decide) ?_
        refine lv_iadd hx hb d_L_law_286 ?_
        refine lv_topi (nm_r (show _ = nI ((3 * t) + 2) from nI_add _ _) ?_)
        refine va_sld hx hb hX hbl hbA hS (vp_in_nI (by omega) (by omega)) d_L_law_287 ?_
        refine lv_topi (nm_r (show _ = xs ((3 * t) + 2) from by rw [nI_clamp (by omega)]) ?_)
        refine cc_Vi (wc := [(a0, .inr (1, [.int th, .int (nI nn), .ref a1])), (a1, .inl (cM, 16385, .inl F))]) (wr := [(h0, .inr (0, [.ref h1, .ref h2, .int (nI n2), .int (nI p2)])), (h1, .inl (cA, 512, .inl M2)), (h2, .inl (cB, 512, .inl S2)), (o0, .inl (cO, 1, .inr (.inl fo2)))]) (tys' := [(cM, .boolean)]) ⟨hx, hb, hml, hown, hts⟩ hP hD hK hS hA [0, 1] [2, 3, 4, 5] [2] rfl rfl rfl (by decide) (by decide) (by decide) rfl (cM_make l dC dI a0 a1 cM _ F G nn th hF (xs (3 * t + 1)) (xs (3 * t + 2)) i2 gG0 gR.2) (cwV 2 hts g_L_65 rfl rfl rfl (by decide +kernel) ⟨Nat.le_of_ble_eq_true rfl, Nat.le_of_ble_eq_true rfl⟩) 0 1 rfl rfl rfl rfl hl.1 rfl (Nat.le_of_ble_eq_true rfl) d_L_law_288 ⟨by show cs + 2 + 0 ≤ 1035; omega, by show sl + 12 + 0 ≤ 25639; omega⟩ (fun rm_ v H locs hv hP hD hS => ?_)
        obtain ⟨b2, F2, G2⟩ := v
        obtain ⟨hF2, hv⟩ := hv
        dsimp only at hF2 hv
        replace hP : va_P (dC, dI) vwCl [(h0, .inr (0, [.ref h1, .ref h2, .int (nI n2), .int (nI p2)])), (h1, .inl (cA, 512, .inl M2)), (h2, .inl (cB, 512, .inl S2)), (o0, .inl (cO, 1, .inr (.inl fo2))), (a0, .inr (1, [.int (zv (!b2)), .int (nI nn), .ref a1])), (a1, .inl (cM, 16385, .inl F2))] H := hP
        replace hD : va_D (fun q : Nat => s.heap.size ≤ q) [(h0, .inr (0, [.ref h1, .ref h2, .int (nI n2), .int (nI p2)])), (h1, .inl (cA, 512, .inl M2)), (h2, .inl (cB, 512, .inl S2)), (o0, .inl (cO, 1, .inr (.inl fo2))), (a0, .inr (1, [.int (zv (!b2)), .int (nI nn), .ref a1])), (a1, .inl (cM, 16385, .inl F2))] := hD
        have hT := tie_make g0 gR hw hv
        obtain ⟨g2, en, gR2, hres⟩ := hT
        dsimp only at g2 en gR2 hres
        subst en
        replace hP : va_P (dC, dI) vwCl [(h0, .inr (0, [.ref h1, .ref h2, .int (nI n2), .int (nI p2)])), (h1, .inl (cA, 512, .inl M2)), (h2, .inl (cB, 512, .inl S2)), (o0, .inl (cO, 1, .inr (.inl fo2))), (a0, .inr (1, [.int (zv (!b2)), .int (nI n2), .ref a1])), (a1, .inl (cM, 16385, .inl F2))] H := hP
        replace hD : va_D (fun q : Nat => s.heap.size ≤ q) [(h0, .inr (0, [.ref h1, .ref h2, .int (nI n2), .int (nI p2)])), (h1, .inl (cA, 512, .inl M2)), (h2, .inl (cB, 512, .inl S2)), (o0, .inl (cO, 1, .inr (.inl fo2))), (a0, .inr (1, [.int (zv (!b2)), .int (nI n2), .ref a1])), (a1, .inl (cM, 16385, .inl F2))] := hD
        refine lv_istore (lv' := [(6, .int rm_), (5, .int kv), (0, .ref b), (1, .ref h0), (2, .ref a0), (3, .ref o0), (4, .int (nI (3 * t)))]) hx hb d_L_law_291 hl (by decide) rfl (fun ls hl => ?_)
        refine lv_aload_n hx hb d_L_law_293 rfl (lv_at hl 4 rfl) ?_
        refine cc_Vi (wc := [(a0, .inr (1, [.int (zv (!b2)), .int (nI n2), .ref a1])), (a1, .inl (cM, 16385, .inl F2))]) (wr := [(h0, .inr (0, [.ref h1, .ref h2, .int (nI n2), .int (nI p2)])), (h1, .inl (cA, 512, .inl M2)), (h2, .inl (cB, 512, .inl S2)), (o0, .inl (cO, 1, .inr (.inl fo2)))]) (tys' := [(cM, .boolean)]) ⟨hx, hb, hml, hown, hts⟩ hP hD hK hS hA [4, 5] [0, 1, 2, 3] [2] rfl rfl rfl (by decide) (by decide) (by decide) rfl (cM_thrown l dC dI a0 a1 cM _ F2 G2 n2 (zv (!b2)) hF2) (cwV 0 hts g_L_52 rfl rfl rfl (by decide +kernel) ⟨Nat.le_of_ble_eq_true rfl, Nat.le_of_ble_eq_true rfl⟩) 0 1 rfl rfl rfl rfl hl.1 rfl (Nat.le_of_ble_eq_true rfl) d_L_law_294 ⟨by show cs + 2 + 0 + 0 ≤ 1035; omega, by show sl + 12 + 0 + 0 ≤ 25639; omega⟩ (fun rt v H locs hv2 hP hD hS => ?_)
        subst hv2
        replace hP : va_P (dC, dI) vwCl [(h0, .inr (0, [.ref h1, .ref h2, .int (nI n2), .int (nI p2)])), (h1, .inl (cA, 512, .inl M2)), (h2, .inl (cB, 512, .inl S2)), (o0, .inl (cO, 1, .inr (.inl fo2))), (a0, .inr (1, [.int (zv (!b2)), .int (nI n2), .ref a1])), (a1, .inl (cM, 16385, .inl F2))] H := hP
        replace hD : va_D (fun q : Nat => s.heap.size ≤ q) [(h0, .inr (0, [.ref h1, .ref h2, .int (nI n2), .int (nI p2)])), (h1, .inl (cA, 512, .inl M2)), (h2, .inl (cB, 512, .inl S2)), (o0, .inl (cO, 1, .inr (.inl fo2))), (a0, .inr (1, [.int (zv (!b2)), .int (nI n2), .ref a1])), (a1, .inl (cM, 16385, .inl F2))] := hD
        rcases hres with ⟨rfl, rfl, eo⟩ | ⟨rfl, rfl⟩
        · refine lv_iload hx hb d_L_law_297 (lv_at hl 1 rfl) ?_
          refine lv_icmp_eq (tgt := 304) hx hb d_L_law_299 (by decide) (fun c3 => ?_) (fun c3 => ?_)
          · refine lv_iload hx hb d_L_law_304 (lv_at hl 1 rfl) ?_
            refine lv_if_ne (tgt := 321) hx hb d_L_law_306 (by decide) (fun c4 => ?_) (fun c4 => ?_)
            · replace c4 : ¬ (0 = 0) := fun h9 => c4 ((nI_eq (a := 0) (b := 0) (by omega) (by omega)).mpr h9)
              exact absurd rfl c4
            · replace c4 : 0 = 0 := (nI_eq (a := 0) (b := 0) (by omega) (by omega)).mp c4
              refine lv_aload_n hx hb d_L_law_309 rfl (lv_at hl 5 rfl) ?_
              refine lv_iconst (v := nI 0) hx hb d_L_law_310 (by decide) ?_
              refine va_lald hx hb hK hP 3 3 rfl rfl (vp_in_nI (by omega) (by decide)) d_L_law_311 ?_
              rw [nI_clamp (by omega)]
              refine lv_iload hx hb d_L_law_312 (lv_at hl 0 rfl) ?_
              refine lv_i2l (v := rm_.toInt64) hx hb d_L_law_314 rfl ?_
              refine W.lcmp hx hb d_L_law_315 ?_
              refine lv_if_eq (tgt := 321) hx hb d_L_law_316 (by decide) (fun c5 => ?_) (fun c5 => ?_)
              · refine lv_goto (tgt := 604) hx hb d_L_law_321 (by decide) ?_
                refine lv_iinc (v := nI ((3 * t) + 3)) (lv' := [(4, .int (nI ((3 * t) + 3))), (6, .int rm_), (5, .int (nI 0)), (0, .ref b), (1, .ref h0), (2, .ref a0), (3, .ref o0)]) hx hb d_L_law_604 hl (k := 6) rfl (nI_add _ _) (by decide) rfl (fun ls hl => ?_)
                refine lv_goto (tgt := 23) hx hb d_L_law_607 (by decide) ?_
                exact ih (t + 1) n2 p2 M2 S2 fo2 (zv (!true)) F2 G2 (by omega) (by omega) g2 hF2 gR2 _ _ _ _ (by omega) (by omega) hP hD hS ls (lv_sub hl [3, 4, 5, 6, 0] rfl)
              · exact absurd (by (rw [eo]; exact z_cmp _)) c5
          · exact absurd rfl c3
        · refine lv_iload hx hb d_L_law_297 (lv_at hl 1 rfl) ?_
          refine lv_icmp_eq (tgt := 304) hx hb d_L_law_299 (by decide) (fun c3 => ?_) (fun c3 => ?_)
          · refine lv_iload hx hb d_L_law_304 (lv_at hl 1 rfl) ?_
            refine lv_if_ne (tgt := 321) hx hb d_L_law_306 (by decide) (fun c4 => ?_) (fun c4 => ?_)
            · replace c4 : ¬ (1 = 0) := fun h9 => c4 ((nI_eq (a := 1) (b := 0) (by omega) (by omega)).mpr h9)
              refine lv_goto (tgt := 604) hx hb d_L_law_321 (by decide) ?_
              refine lv_iinc (v := nI ((3 * t) + 3)) (lv' := [(4, .int (nI ((3 * t) + 3))), (6, .int rm_), (5, .int (nI 1)), (0, .ref b), (1, .ref h0), (2, .ref a0), (3, .ref o0)]) hx hb d_L_law_604 hl (k := 6) rfl (nI_add _ _) (by decide) rfl (fun ls hl => ?_)
              refine lv_goto (tgt := 23) hx hb d_L_law_607 (by decide) ?_
              exact ih (t + 1) n2 p2 M2 S2 fo2 (zv (!false)) F2 G2 (by omega) (by omega) g2 hF2 gR2 _ _ _ _ (by omega) (by omega) hP hD hS ls (lv_sub hl [3, 4, 5, 6, 0] rfl)
            · replace c4 : 1 = 0 := (nI_eq (a := 1) (b := 0) (by omega) (by omega)).mp c4
              exact absurd c4 (by decide)
          · exact absurd rfl c3
      · refine lv_tableIn (tgt := 324) (off := 285) hx hb d_L_law_39 (by decide) (by decide) (by decide) (by decide) ?_
        refine lv_aload_n hx hb d_L_law_324 rfl (lv_at hl 1 rfl) ?_
        refine lv_aload_n hx hb d_L_law_325 rfl (lv_at hl 0 rfl) ?_
        refine lv_iload hx hb d_L_law_326 (lv_at hl 4 rfl) ?_
        refine lv_iconst (v := nI 1) hx hb d_L_law_328 (by decide) ?_
        refine lv_iadd hx hb d_L_law_329 ?_
        refine lv_topi (nm_r (show _ = nI ((3 * t) + 1) from nI_add _ _) ?_)
        refine va_sld hx hb hX hbl hbA hS (vp_in_nI (by omega) (by omega)) d_L_law_330 ?_
        refine lv_topi (nm_r (show _ = xs ((3 * t) + 1) from by rw [nI_clamp (by omega)]) ?_)
        refine lv_aload_n hx hb d_L_law_331 rfl (lv_at hl 3 rfl) ?_
        refine cw_Si (wc := [(h0, .inr (0, [.ref h1, .ref h2, .int (nI nn), .int (nI pp)])), (h1, .inl (cA, 512, .inl M)), (h2, .inl (cB, 512, .inl S)), (o0, .inl (cO, 1, .inr (.inl fo)))]) (wr := [(a0, .inr (1, [.int th, .int (nI nn), .ref a1])), (a1, .inl (cM, 16385, .inl F))]) (tys' := [(cA, .int), (cB, .int), (cO, .long)]) ⟨hx, hb, hml, hown, hts⟩ hP hD hK hS hA hZ [0, 1, 2, 3] [4, 5] [0, 1, 3] rfl rfl rfl (by decide) (by decide) (by decide) rfl (cL_begin l hlt dC dI h0 h1 h2 o0 cA cB cO _ M S nn pp fo g0 (xs (3 * t + 1))) (vx_cwSW 3 hts g_L_66 rfl rfl rfl (by decide +kernel) ⟨Nat.le_of_ble_eq_true rfl, Nat.le_of_ble_eq_true rfl⟩) rfl hl.1 rfl (Nat.le_of_ble_eq_true rfl) d_L_law_332 ⟨by show cs + 1 ≤ 1035; omega, by show sl + 6 ≤ 25639; omega⟩ (fun kv u H locs hw hP hD hS => ?_)
        obtain ⟨⟨n2, p2, M2, S2⟩, fo2⟩ := u
        replace hP : va_P (dC, dI) vwCl [(a0, .inr (1, [.int th, .int (nI nn), .ref a1])), (a1, .inl (cM, 16385, .inl F)), (h0, .inr (0, [.ref h1, .ref h2, .int (nI n2), .int (nI p2)])), (h1, .inl (cA, 512, .inl M2)), (h2, .inl (cB, 512, .inl S2)), (o0, .inl (cO, 1, .inr (.inl fo2)))] H := hP
        replace hD : va_D (fun q : Nat => s.heap.size ≤ q) [(a0, .inr (1, [.int th, .int (nI nn), .ref a1])), (a1, .inl (cM, 16385, .inl F)), (h0, .inr (0, [.ref h1, .ref h2, .int (nI n2), .int (nI p2)])), (h1, .inl (cA, 512, .inl M2)), (h2, .inl (cB, 512, .inl S2)), (o0, .inl (cO, 1, .inr (.inl fo2)))] := hD
        refine lv_istore (lv' := [(5, .int kv), (0, .ref b), (1, .ref h0), (2, .ref a0), (3, .ref o0), (4, .int (nI (3 * t)))]) hx hb d_L_law_335 hl (by decide) rfl (fun ls hl => ?_)
        refine lv_aload_n hx hb d_L_law_337 rfl (lv_at hl 3 rfl) ?_
        refine lv_aload_n hx hb d_L_law_338 rfl (lv_at hl 1 rfl) ?_
        refine lv_iload hx hb d_L_law_339 (lv_at hl 5 rfl) ?_
        refine lv_iconst (v := nI 1) hx hb d_L_law_341 (by decide) ?_
        refine lv_iadd hx hb d_L_law_342 ?_
        refine lv_topi (nm_r (show _ = nI ((3 * t) + 1) from nI_add _ _) ?_)
        refine va_sld hx hb hX hbl hbA hS (vp_in_nI (by omega) (by omega)) d_L_law_343 ?_
        refine lv_topi (nm_r (show _ = xs ((3 * t) + 1) from by rw [nI_clamp (by omega)]) ?_)
        refine cc_Vi (wc := [(a0, .inr (1, [.int th, .int (nI nn), .ref a1])), (a1, .inl (cM, 16385, .inl F))]) (wr := [(h0, .inr (0, [.ref h1, .ref h2, .int (nI n2), .int (nI p2)])), (h1, .inl (cA, 512, .inl M2)), (h2, .inl (cB, 512, .inl S2)), (o0, .inl (cO, 1, .inr (.inl fo2)))]) (tys' := [(cM, .boolean)]) ⟨hx, hb, hml, hown, hts⟩ hP hD hK hS hA [0, 1] [2, 3, 4, 5] [2] rfl rfl rfl (by decide) (by decide) (by decide) rfl (cM_begin l dC dI a0 a1 cM _ F G nn th hF (xs (3 * t + 1)) i2 gG0 gR.2) (cwV 1 hts g_L_68 rfl rfl rfl (by decide +kernel) ⟨Nat.le_of_ble_eq_true rfl, Nat.le_of_ble_eq_true rfl⟩) 0 1 rfl rfl rfl rfl hl.1 rfl (Nat.le_of_ble_eq_true rfl) d_L_law_344 ⟨by show cs + 1 + 0 ≤ 1035; omega, by show sl + 6 + 0 ≤ 25639; omega⟩ (fun rm_ v H locs hv hP hD hS => ?_)
        obtain ⟨b2, F2, G2⟩ := v
        obtain ⟨hF2, hv⟩ := hv
        dsimp only at hF2 hv
        replace hP : va_P (dC, dI) vwCl [(h0, .inr (0, [.ref h1, .ref h2, .int (nI n2), .int (nI p2)])), (h1, .inl (cA, 512, .inl M2)), (h2, .inl (cB, 512, .inl S2)), (o0, .inl (cO, 1, .inr (.inl fo2))), (a0, .inr (1, [.int (zv (!b2)), .int (nI nn), .ref a1])), (a1, .inl (cM, 16385, .inl F2))] H := hP
        replace hD : va_D (fun q : Nat => s.heap.size ≤ q) [(h0, .inr (0, [.ref h1, .ref h2, .int (nI n2), .int (nI p2)])), (h1, .inl (cA, 512, .inl M2)), (h2, .inl (cB, 512, .inl S2)), (o0, .inl (cO, 1, .inr (.inl fo2))), (a0, .inr (1, [.int (zv (!b2)), .int (nI nn), .ref a1])), (a1, .inl (cM, 16385, .inl F2))] := hD
        have hT := tie_begin g0 gR hw hv
        obtain ⟨g2, en, gR2, hres⟩ := hT
        dsimp only at g2 en gR2 hres
        subst en
        replace hP : va_P (dC, dI) vwCl [(h0, .inr (0, [.ref h1, .ref h2, .int (nI n2), .int (nI p2)])), (h1, .inl (cA, 512, .inl M2)), (h2, .inl (cB, 512, .inl S2)), (o0, .inl (cO, 1, .inr (.inl fo2))), (a0, .inr (1, [.int (zv (!b2)), .int (nI n2), .ref a1])), (a1, .inl (cM, 16385, .inl F2))] H := hP
        replace hD : va_D (fun q : Nat => s.heap.size ≤ q) [(h0, .inr (0, [.ref h1, .ref h2, .int (nI n2), .int (nI p2)])), (h1, .inl (cA, 512, .inl M2)), (h2, .inl (cB, 512, .inl S2)), (o0, .inl (cO, 1, .inr (.inl fo2))), (a0, .inr (1, [.int (zv (!b2)), .int (nI n2), .ref a1])), (a1, .inl (cM, 16385, .inl F2))] := hD
        refine lv_istore (lv' := [(6, .int rm_), (5, .int kv), (0, .ref b), (1, .ref h0), (2, .ref a0), (3, .ref o0), (4, .int (nI (3 * t)))]) hx hb d_L_law_347 hl (by decide) rfl (fun ls hl => ?_)
        refine lv_aload_n hx hb d_L_law_349 rfl (lv_at hl 4 rfl) ?_
        refine cc_Vi (wc := [(a0, .inr (1, [.int (zv (!b2)), .int (nI n2), .ref a1])), (a1, .inl (cM, 16385, .inl F2))]) (wr := [(h0, .inr (0, [.ref h1, .ref h2, .int (nI n2), .int (nI p2)])), (h1, .inl (cA, 512, .inl M2)), (h2, .inl (cB, 512, .inl S2)), (o0, .inl (cO, 1, .inr (.inl fo2)))]) (tys' := [(cM, .boolean)]) ⟨hx, hb, hml, hown, hts⟩ hP hD hK hS hA [4, 5] [0, 1, 2, 3] [2] rfl rfl rfl (by decide) (by decide) (by decide) rfl (cM_thrown l dC dI a0 a1 cM _ F2 G2 n2 (zv (!b2)) hF2) (cwV 0 hts g_L_52 rfl rfl rfl (by decide +kernel) ⟨Nat.le_of_ble_eq_true rfl, Nat.le_of_ble_eq_true rfl⟩) 0 1 rfl rfl rfl rfl hl.1 rfl (Nat.le_of_ble_eq_true rfl) d_L_law_350 ⟨by show cs + 1 + 0 + 0 ≤ 1035; omega, by show sl + 6 + 0 + 0 ≤ 25639; omega⟩ (fun rt v H locs hv2 hP hD hS => ?_)
        subst hv2
        replace hP : va_P (dC, dI) vwCl [(h0, .inr (0, [.ref h1, .ref h2, .int (nI n2), .int (nI p2)])), (h1, .inl (cA, 512, .inl M2)), (h2, .inl (cB, 512, .inl S2)), (o0, .inl (cO, 1, .inr (.inl fo2))), (a0, .inr (1, [.int (zv (!b2)), .int (nI n2), .ref a1])), (a1, .inl (cM, 16385, .inl F2))] H := hP
        replace hD : va_D (fun q : Nat => s.heap.size ≤ q) [(h0, .inr (0, [.ref h1, .ref h2, .int (nI n2), .int (nI p2)])), (h1, .inl (cA, 512, .inl M2)), (h2, .inl (cB, 512, .inl S2)), (o0, .inl (cO, 1, .inr (.inl fo2))), (a0, .inr (1, [.int (zv (!b2)), .int (nI n2), .ref a1])), (a1, .inl (cM, 16385, .inl F2))] := hD
        rcases hres with ⟨rfl, rfl, eo⟩ | ⟨rfl, rfl⟩
        · refine lv_iload hx hb d_L_law_353 (lv_at hl 1 rfl) ?_
          refine lv_icmp_eq (tgt := 360) hx hb d_L_law_355 (by decide) (fun c3 => ?_) (fun c3 => ?_)
          · refine lv_iload hx hb d_L_law_360 (lv_at hl 1 rfl) ?_
            refine lv_if_ne (tgt := 377) hx hb d_L_law_362 (by decide) (fun c4 => ?_) (fun c4 => ?_)
            · replace c4 : ¬ (0 = 0) := fun h9 => c4 ((nI_eq (a := 0) (b := 0) (by omega) (by omega)).mpr h9)
              exact absurd rfl c4
            · replace c4 : 0 = 0 := (nI_eq (a := 0) (b := 0) (by omega) (by omega)).mp c4
              refine lv_aload_n hx hb d_L_law_365 rfl (lv_at hl 5 rfl) ?_
              refine lv_iconst (v := nI 0) hx hb d_L_law_366 (by decide) ?_
              refine va_lald hx hb hK hP 3 3 rfl rfl (vp_in_nI (by omega) (by decide)) d_L_law_367 ?_
              rw [nI_clamp (by omega)]
              refine lv_iload hx hb d_L_law_368 (lv_at hl 0 rfl) ?_
              refine lv_i2l (v := rm_.toInt64) hx hb d_L_law_370 rfl ?_
              refine W.lcmp hx hb d_L_law_371 ?_
              refine lv_if_eq (tgt := 377) hx hb d_L_law_372 (by decide) (fun c5 => ?_) (fun c5 => ?_)
              · refine lv_goto (tgt := 604) hx hb d_L_law_377 (by decide) ?_
                refine lv_iinc (v := nI ((3 * t) + 3)) (lv' := [(4, .int (nI ((3 * t) + 3))), (6, .int rm_), (5, .int (nI 0)), (0, .ref b), (1, .ref h0), (2, .ref a0), (3, .ref o0)]) hx hb d_L_law_604 hl (k := 6) rfl (nI_add _ _) (by decide) rfl (fun ls hl => ?_)
                refine lv_goto (tgt := 23) hx hb d_L_law_607 (by decide) ?_
                exact ih (t + 1) n2 p2 M2 S2 fo2 (zv (!true)) F2 G2 (by omega) (by omega) g2 hF2 gR2 _ _ _ _ (by omega) (by omega) hP hD hS ls (lv_sub hl [3, 4, 5, 6, 0] rfl)
              · exact absurd (by (rw [eo]; exact z_cmp _)) c5
          · exact absurd rfl c3
        · refine lv_iload hx hb d_L_law_353 (lv_at hl 1 rfl) ?_
          refine lv_icmp_eq (tgt := 360) hx hb d_L_law_355 (by decide) (fun c3 => ?_) (fun c3 => ?_)
          · refine lv_iload hx hb d_L_law_360 (lv_at hl 1 rfl) ?_
            refine lv_if_ne (tgt := 377) hx hb d_L_law_362 (by decide) (fun c4 => ?_) (fun c4 => ?_)
            · replace c4 : ¬ (1 = 0) := fun h9 => c4 ((nI_eq (a := 1) (b := 0) (by omega) (by omega)).mpr h9)
              refine lv_goto (tgt := 604) hx hb d_L_law_377 (by decide) ?_
              refine lv_iinc (v := nI ((3 * t) + 3)) (lv' := [(4, .int (nI ((3 * t) + 3))), (6, .int rm_), (5, .int (nI 1)), (0, .ref b), (1, .ref h0), (2, .ref a0), (3, .ref o0)]) hx hb d_L_law_604 hl (k := 6) rfl (nI_add _ _) (by decide) rfl (fun ls hl => ?_)
              refine lv_goto (tgt := 23) hx hb d_L_law_607 (by decide) ?_
              exact ih (t + 1) n2 p2 M2 S2 fo2 (zv (!false)) F2 G2 (by omega) (by omega) g2 hF2 gR2 _ _ _ _ (by omega) (by omega) hP hD hS ls (lv_sub hl [3, 4, 5, 6, 0] rfl)
            · replace c4 : 1 = 0 := (nI_eq (a := 1) (b := 0) (by omega) (by omega)).mp c4
              exact absurd c4 (by decide)
          · exact absurd rfl c3
      · refine lv_tableIn (tgt := 380) (off := 341) hx hb d_L_law_39 (by decide) (by decide) (by decide) (by decide) ?_
        refine lv_aload_n hx hb d_L_law_380 rfl (lv_at hl 1 rfl) ?_
        refine lv_aload_n hx hb d_L_law_381 rfl (lv_at hl 0 rfl) ?_
        refine lv_iload hx hb d_L_law_382 (lv_at hl 4 rfl) ?_
        refine lv_iconst (v := nI 1) hx hb d_L_law_384 (by decide) ?_
        refine lv_iadd hx hb d_L_law_385 ?_
        refine lv_topi (nm_r (show _ = nI ((3 * t) + 1) from nI_add _ _) ?_)
        refine va_sld hx hb hX hbl hbA hS (vp_in_nI (by omega) (by omega)) d_L_law_386 ?_
        refine lv_topi (nm_r (show _ = xs ((3 * t) + 1) from by rw [nI_clamp (by omega)]) ?_)
        refine lv_aload_n hx hb d_L_law_387 rfl (lv_at hl 3 rfl) ?_
        refine cw_Si (wc := [(h0, .inr (0, [.ref h1, .ref h2, .int (nI nn), .int (nI pp)])), (h1, .inl (cA, 512, .inl M)), (h2, .inl (cB, 512, .inl S)), (o0, .inl (cO, 1, .inr (.inl fo)))]) (wr := [(a0, .inr (1, [.int th, .int (nI nn), .ref a1])), (a1, .inl (cM, 16385, .inl F))]) (tys' := [(cA, .int), (cB, .int), (cO, .long)]) ⟨hx, hb, hml, hown, hts⟩ hP hD hK hS hA hZ [0, 1, 2, 3] [4, 5] [0, 1, 3] rfl rfl rfl (by decide) (by decide) (by decide) rfl (cL_size l hlt dC dI h0 h1 h2 o0 cA cB cO _ M S nn pp fo g0 (xs (3 * t + 1))) (vx_cwSW 3 hts g_L_69 rfl rfl rfl (by decide +kernel) ⟨Nat.le_of_ble_eq_true rfl, Nat.le_of_ble_eq_true rfl⟩) rfl hl.1 rfl (Nat.le_of_ble_eq_true rfl) d_L_law_388 ⟨by show cs + 1 ≤ 1035; omega, by show sl + 6 ≤ 25639; omega⟩ (fun kv u H locs hw hP hD hS => ?_)
        obtain ⟨⟨n2, p2, M2, S2⟩, fo2⟩ := u
        replace hP : va_P (dC, dI) vwCl [(a0, .inr (1, [.int th, .int (nI nn), .ref a1])), (a1, .inl (cM, 16385, .inl F)), (h0, .inr (0, [.ref h1, .ref h2, .int (nI n2), .int (nI p2)])), (h1, .inl (cA, 512, .inl M2)), (h2, .inl (cB, 512, .inl S2)), (o0, .inl (cO, 1, .inr (.inl fo2)))] H := hP
        replace hD : va_D (fun q : Nat => s.heap.size ≤ q) [(a0, .inr (1, [.int th, .int (nI nn), .ref a1])), (a1, .inl (cM, 16385, .inl F)), (h0, .inr (0, [.ref h1, .ref h2, .int (nI n2), .int (nI p2)])), (h1, .inl (cA, 512, .inl M2)), (h2, .inl (cB, 512, .inl S2)), (o0, .inl (cO, 1, .inr (.inl fo2)))] := hD
        refine lv_istore (lv' := [(5, .int kv), (0, .ref b), (1, .ref h0), (2, .ref a0), (3, .ref o0), (4, .int (nI (3 * t)))]) hx hb d_L_law_391 hl (by decide) rfl (fun ls hl => ?_)
        refine lv_aload_n hx hb d_L_law_393 rfl (lv_at hl 3 rfl) ?_
        refine lv_aload_n hx hb d_L_law_394 rfl (lv_at hl 1 rfl) ?_
        refine lv_iload hx hb d_L_law_395 (lv_at hl 5 rfl) ?_
        refine lv_iconst (v := nI 1) hx hb d_L_law_397 (by decide) ?_
        refine lv_iadd hx hb d_L_law_398 ?_
        refine lv_topi (nm_r (show _ = nI ((3 * t) + 1) from nI_add _ _) ?_)
        refine va_sld hx hb hX hbl hbA hS (vp_in_nI (by omega) (by omega)) d_L_law_399 ?_
        refine lv_topi (nm_r (show _ = xs ((3 * t) + 1) from by rw [nI_clamp (by omega)]) ?_)
        refine cc_Vi (wc := [(a0, .inr (1, [.int th, .int (nI nn), .ref a1])), (a1, .inl (cM, 16385, .inl F))]) (wr := [(h0, .inr (0, [.ref h1, .ref h2, .int (nI n2), .int (nI p2)])), (h1, .inl (cA, 512, .inl M2)), (h2, .inl (cB, 512, .inl S2)), (o0, .inl (cO, 1, .inr (.inl fo2)))]) (tys' := [(cM, .boolean)]) ⟨hx, hb, hml, hown, hts⟩ hP hD hK hS hA [0, 1] [2, 3, 4, 5] [2] rfl rfl rfl (by decide) (by decide) (by decide) rfl (cM_size l dC dI a0 a1 cM _ F G nn th hF (xs (3 * t + 1)) i2 gG0 gR.2) (cwV 1 hts g_L_71 rfl rfl rfl (by decide +kernel) ⟨Nat.le_of_ble_eq_true rfl, Nat.le_of_ble_eq_true rfl⟩) 0 1 rfl rfl rfl rfl hl.1 rfl (Nat.le_of_ble_eq_true rfl) d_L_law_400 ⟨by show cs + 1 + 0 ≤ 1035; omega, by show sl + 6 + 0 ≤ 25639; omega⟩ (fun rm_ v H locs hv hP hD hS => ?_)
        obtain ⟨b2, F2, G2⟩ := v
        obtain ⟨hF2, hv⟩ := hv
        dsimp only at hF2 hv
        replace hP : va_P (dC, dI) vwCl [(h0, .inr (0, [.ref h1, .ref h2, .int (nI n2), .int (nI p2)])), (h1, .inl (cA, 512, .inl M2)), (h2, .inl (cB, 512, .inl S2)), (o0, .inl (cO, 1, .inr (.inl fo2))), (a0, .inr (1, [.int (zv (!b2)), .int (nI nn), .ref a1])), (a1, .inl (cM, 16385, .inl F2))] H := hP
        replace hD : va_D (fun q : Nat => s.heap.size ≤ q) [(h0, .inr (0, [.ref h1, .ref h2, .int (nI n2), .int (nI p2)])), (h1, .inl (cA, 512, .inl M2)), (h2, .inl (cB, 512, .inl S2)), (o0, .inl (cO, 1, .inr (.inl fo2))), (a0, .inr (1, [.int (zv (!b2)), .int (nI nn), .ref a1])), (a1, .inl (cM, 16385, .inl F2))] := hD
        have hT := tie_size g0 gR hw hv
        obtain ⟨g2, en, gR2, hres⟩ := hT
        dsimp only at g2 en gR2 hres
        subst en
        replace hP : va_P (dC, dI) vwCl [(h0, .inr (0, [.ref h1, .ref h2, .int (nI n2), .int (nI p2)])), (h1, .inl (cA, 512, .inl M2)), (h2, .inl (cB, 512, .inl S2)), (o0, .inl (cO, 1, .inr (.inl fo2))), (a0, .inr (1, [.int (zv (!b2)), .int (nI n2), .ref a1])), (a1, .inl (cM, 16385, .inl F2))] H := hP
        replace hD : va_D (fun q : Nat => s.heap.size ≤ q) [(h0, .inr (0, [.ref h1, .ref h2, .int (nI n2), .int (nI p2)])), (h1, .inl (cA, 512, .inl M2)), (h2, .inl (cB, 512, .inl S2)), (o0, .inl (cO, 1, .inr (.inl fo2))), (a0, .inr (1, [.int (zv (!b2)), .int (nI n2), .ref a1])), (a1, .inl (cM, 16385, .inl F2))] := hD
        refine lv_istore (lv' := [(6, .int rm_), (5, .int kv), (0, .ref b), (1, .ref h0), (2, .ref a0), (3, .ref o0), (4, .int (nI (3 * t)))]) hx hb d_L_law_403 hl (by decide) rfl (fun ls hl => ?_)
        refine lv_aload_n hx hb d_L_law_405 rfl (lv_at hl 4 rfl) ?_
        refine cc_Vi (wc := [(a0, .inr (1, [.int (zv (!b2)), .int (nI n2), .ref a1])), (a1, .inl (cM, 16385, .inl F2))]) (wr := [(h0, .inr (0, [.ref h1, .ref h2, .int (nI n2), .int (nI p2)])), (h1, .inl (cA, 512, .inl M2)), (h2, .inl (cB, 512, .inl S2)), (o0, .inl (cO, 1, .inr (.inl fo2)))]) (tys' := [(cM, .boolean)]) ⟨hx, hb, hml, hown, hts⟩ hP hD hK hS hA [4, 5] [0, 1, 2, 3] [2] rfl rfl rfl (by decide) (by decide) (by decide) rfl (cM_thrown l dC dI a0 a1 cM _ F2 G2 n2 (zv (!b2)) hF2) (cwV 0 hts g_L_52 rfl rfl rfl (by decide +kernel) ⟨Nat.le_of_ble_eq_true rfl, Nat.le_of_ble_eq_true rfl⟩) 0 1 rfl rfl rfl rfl hl.1 rfl (Nat.le_of_ble_eq_true rfl) d_L_law_406 ⟨by show cs + 1 + 0 + 0 ≤ 1035; omega, by show sl + 6 + 0 + 0 ≤ 25639; omega⟩ (fun rt v H locs hv2 hP hD hS => ?_)
        subst hv2
        replace hP : va_P (dC, dI) vwCl [(h0, .inr (0, [.ref h1, .ref h2, .int (nI n2), .int (nI p2)])), (h1, .inl (cA, 512, .inl M2)), (h2, .inl (cB, 512, .inl S2)), (o0, .inl (cO, 1, .inr (.inl fo2))), (a0, .inr (1, [.int (zv (!b2)), .int (nI n2), .ref a1])), (a1, .inl (cM, 16385, .inl F2))] H := hP
        replace hD : va_D (fun q : Nat => s.heap.size ≤ q) [(h0, .inr (0, [.ref h1, .ref h2, .int (nI n2), .int (nI p2)])), (h1, .inl (cA, 512, .inl M2)), (h2, .inl (cB, 512, .inl S2)), (o0, .inl (cO, 1, .inr (.inl fo2))), (a0, .inr (1, [.int (zv (!b2)), .int (nI n2), .ref a1])), (a1, .inl (cM, 16385, .inl F2))] := hD
        rcases hres with ⟨rfl, rfl, eo⟩ | ⟨rfl, rfl⟩
        · refine lv_iload hx hb d_L_law_409 (lv_at hl 1 rfl) ?_
          refine lv_icmp_eq (tgt := 416) hx hb d_L_law_411 (by decide) (fun c3 => ?_) (fun c3 => ?_)
          · refine lv_iload hx hb d_L_law_416 (lv_at hl 1 rfl) ?_
            refine lv_if_ne (tgt := 433) hx hb d_L_law_418 (by decide) (fun c4 => ?_) (fun c4 => ?_)
            · replace c4 : ¬ (0 = 0) := fun h9 => c4 ((nI_eq (a := 0) (b := 0) (by omega) (by omega)).mpr h9)
              exact absurd rfl c4
            · replace c4 : 0 = 0 := (nI_eq (a := 0) (b := 0) (by omega) (by omega)).mp c4
              refine lv_aload_n hx hb d_L_law_421 rfl (lv_at hl 5 rfl) ?_
              refine lv_iconst (v := nI 0) hx hb d_L_law_422 (by decide) ?_
              refine va_lald hx hb hK hP 3 3 rfl rfl (vp_in_nI (by omega) (by decide)) d_L_law_423 ?_
              rw [nI_clamp (by omega)]
              refine lv_iload hx hb d_L_law_424 (lv_at hl 0 rfl) ?_
              refine lv_i2l (v := rm_.toInt64) hx hb d_L_law_426 rfl ?_
              refine W.lcmp hx hb d_L_law_427 ?_
              refine lv_if_eq (tgt := 433) hx hb d_L_law_428 (by decide) (fun c5 => ?_) (fun c5 => ?_)
              · refine lv_goto (tgt := 604) hx hb d_L_law_433 (by decide) ?_
                refine lv_iinc (v := nI ((3 * t) + 3)) (lv' := [(4, .int (nI ((3 * t) + 3))), (6, .int rm_), (5, .int (nI 0)), (0, .ref b), (1, .ref h0), (2, .ref a0), (3, .ref o0)]) hx hb d_L_law_604 hl (k := 6) rfl (nI_add _ _) (by decide) rfl (fun ls hl => ?_)
                refine lv_goto (tgt := 23) hx hb d_L_law_607 (by decide) ?_
                exact ih (t + 1) n2 p2 M2 S2 fo2 (zv (!true)) F2 G2 (by omega) (by omega) g2 hF2 gR2 _ _ _ _ (by omega) (by omega) hP hD hS ls (lv_sub hl [3, 4, 5, 6, 0] rfl)
              · exact absurd (by (rw [eo]; exact z_cmp _)) c5
          · exact absurd rfl c3
        · refine lv_iload hx hb d_L_law_409 (lv_at hl 1 rfl) ?_
          refine lv_icmp_eq (tgt := 416) hx hb d_L_law_411 (by decide) (fun c3 => ?_) (fun c3 => ?_)
          · refine lv_iload hx hb d_L_law_416 (lv_at hl 1 rfl) ?_
            refine lv_if_ne (tgt := 433) hx hb d_L_law_418 (by decide) (fun c4 => ?_) (fun c4 => ?_)
            · replace c4 : ¬ (1 = 0) := fun h9 => c4 ((nI_eq (a := 1) (b := 0) (by omega) (by omega)).mpr h9)
              refine lv_goto (tgt := 604) hx hb d_L_law_433 (by decide) ?_
              refine lv_iinc (v := nI ((3 * t) + 3)) (lv' := [(4, .int (nI ((3 * t) + 3))), (6, .int rm_), (5, .int (nI 1)), (0, .ref b), (1, .ref h0), (2, .ref a0), (3, .ref o0)]) hx hb d_L_law_604 hl (k := 6) rfl (nI_add _ _) (by decide) rfl (fun ls hl => ?_)
              refine lv_goto (tgt := 23) hx hb d_L_law_607 (by decide) ?_
              exact ih (t + 1) n2 p2 M2 S2 fo2 (zv (!false)) F2 G2 (by omega) (by omega) g2 hF2 gR2 _ _ _ _ (by omega) (by omega) hP hD hS ls (lv_sub hl [3, 4, 5, 6, 0] rfl)
            · replace c4 : 1 = 0 := (nI_eq (a := 1) (b := 0) (by omega) (by omega)).mp c4
              exact absurd c4 (by decide)
          · exact absurd rfl c3
      · refine lv_tableIn (tgt := 436) (off := 397) hx hb d_L_law_39 (by decide) (by decide) (by decide) (by decide) ?_
        refine lv_aload_n hx hb d_L_law_436 rfl (lv_at hl 1 rfl) ?_
        refine lv_aload_n hx hb d_L_law_437 rfl (lv_at hl 0 rfl) ?_
        refine lv_iload hx hb d_L_law_438 (lv_at hl 4 rfl) ?_
        refine lv_iconst (v := nI 1) hx hb d_L_law_440 (by decide) ?_
        refine lv_iadd hx hb d_L_law_441 ?_
        refine lv_topi (nm_r (show _ = nI ((3 * t) + 1) from nI_add _ _) ?_)
        refine va_sld hx hb hX hbl hbA hS (vp_in_nI (by omega) (by omega)) d_L_law_442 ?_
        refine lv_topi (nm_r (show _ = xs ((3 * t) + 1) from by rw [nI_clamp (by omega)]) ?_)
        refine lv_aload_n hx hb d_L_law_443 rfl (lv_at hl 3 rfl) ?_
        refine cw_Si (wc := [(h0, .inr (0, [.ref h1, .ref h2, .int (nI nn), .int (nI pp)])), (h1, .inl (cA, 512, .inl M)), (h2, .inl (cB, 512, .inl S)), (o0, .inl (cO, 1, .inr (.inl fo)))]) (wr := [(a0, .inr (1, [.int th, .int (nI nn), .ref a1])), (a1, .inl (cM, 16385, .inl F))]) (tys' := [(cA, .int), (cB, .int), (cO, .long)]) ⟨hx, hb, hml, hown, hts⟩ hP hD hK hS hA hZ [0, 1, 2, 3] [4, 5] [0, 1, 3] rfl rfl rfl (by decide) (by decide) (by decide) rfl (cL_start l hlt dC dI h0 h1 h2 o0 cA cB cO _ M S nn pp fo g0 (xs (3 * t + 1))) (vx_cwSW 3 hts g_L_72 rfl rfl rfl (by decide +kernel) ⟨Nat.le_of_ble_eq_true rfl, Nat.le_of_ble_eq_true rfl⟩) rfl hl.1 rfl (Nat.le_of_ble_eq_true rfl) d_L_law_444 ⟨by show cs + 1 ≤ 1035; omega, by show sl + 6 ≤ 25639; omega⟩ (fun kv u H locs hw hP hD hS => ?_)
        obtain ⟨⟨n2, p2, M2, S2⟩, fo2⟩ := u
        replace hP : va_P (dC, dI) vwCl [(a0, .inr (1, [.int th, .int (nI nn), .ref a1])), (a1, .inl (cM, 16385, .inl F)), (h0, .inr (0, [.ref h1, .ref h2, .int (nI n2), .int (nI p2)])), (h1, .inl (cA, 512, .inl M2)), (h2, .inl (cB, 512, .inl S2)), (o0, .inl (cO, 1, .inr (.inl fo2)))] H := hP
        replace hD : va_D (fun q : Nat => s.heap.size ≤ q) [(a0, .inr (1, [.int th, .int (nI nn), .ref a1])), (a1, .inl (cM, 16385, .inl F)), (h0, .inr (0, [.ref h1, .ref h2, .int (nI n2), .int (nI p2)])), (h1, .inl (cA, 512, .inl M2)), (h2, .inl (cB, 512, .inl S2)), (o0, .inl (cO, 1, .inr (.inl fo2)))] := hD
        refine lv_istore (lv' := [(5, .int kv), (0, .ref b), (1, .ref h0), (2, .ref a0), (3, .ref o0), (4, .int (nI (3 * t)))]) hx hb d_L_law_447 hl (by decide) rfl (fun ls hl => ?_)
        refine lv_aload_n hx hb d_L_law_449 rfl (lv_at hl 3 rfl) ?_
        refine lv_aload_n hx hb d_L_law_450 rfl (lv_at hl 1 rfl) ?_
        refine lv_iload hx hb d_L_law_451 (lv_at hl 5 rfl) ?_
        refine lv_iconst (v := nI 1) hx hb d_L_law_453 (by decide) ?_
        refine lv_iadd hx hb d_L_law_454 ?_
        refine lv_topi (nm_r (show _ = nI ((3 * t) + 1) from nI_add _ _) ?_)
        refine va_sld hx hb hX hbl hbA hS (vp_in_nI (by omega) (by omega)) d_L_law_455 ?_
        refine lv_topi (nm_r (show _ = xs ((3 * t) + 1) from by rw [nI_clamp (by omega)]) ?_)
        refine cc_Vi (wc := [(a0, .inr (1, [.int th, .int (nI nn), .ref a1])), (a1, .inl (cM, 16385, .inl F))]) (wr := [(h0, .inr (0, [.ref h1, .ref h2, .int (nI n2), .int (nI p2)])), (h1, .inl (cA, 512, .inl M2)), (h2, .inl (cB, 512, .inl S2)), (o0, .inl (cO, 1, .inr (.inl fo2)))]) (tys' := [(cM, .boolean)]) ⟨hx, hb, hml, hown, hts⟩ hP hD hK hS hA [0, 1] [2, 3, 4, 5] [2] rfl rfl rfl (by decide) (by decide) (by decide) rfl (cM_start l dC dI a0 a1 cM _ F G nn th hF (xs (3 * t + 1)) i2 gG0 gR.2) (cwV 1 hts g_L_74 rfl rfl rfl (by decide +kernel) ⟨Nat.le_of_ble_eq_true rfl, Nat.le_of_ble_eq_true rfl⟩) 0 1 rfl rfl rfl rfl hl.1 rfl (Nat.le_of_ble_eq_true rfl) d_L_law_456 ⟨by show cs + 1 + 0 ≤ 1035; omega, by show sl + 6 + 0 ≤ 25639; omega⟩ (fun rm_ v H locs hv hP hD hS => ?_)
        obtain ⟨b2, F2, G2⟩ := v
        obtain ⟨hF2, hv⟩ := hv
        dsimp only at hF2 hv
        replace hP : va_P (dC, dI) vwCl [(h0, .inr (0, [.ref h1, .ref h2, .int (nI n2), .int (nI p2)])), (h1, .inl (cA, 512, .inl M2)), (h2, .inl (cB, 512, .inl S2)), (o0, .inl (cO, 1, .inr (.inl fo2))), (a0, .inr (1, [.int (zv (!b2)), .int (nI nn), .ref a1])), (a1, .inl (cM, 16385, .inl F2))] H := hP
        replace hD : va_D (fun q : Nat => s.heap.size ≤ q) [(h0, .inr (0, [.ref h1, .ref h2, .int (nI n2), .int (nI p2)])), (h1, .inl (cA, 512, .inl M2)), (h2, .inl (cB, 512, .inl S2)), (o0, .inl (cO, 1, .inr (.inl fo2))), (a0, .inr (1, [.int (zv (!b2)), .int (nI nn), .ref a1])), (a1, .inl (cM, 16385, .inl F2))] := hD
        have hT := tie_start g0 gR hw hv
        obtain ⟨g2, en, gR2, hres⟩ := hT
        dsimp only at g2 en gR2 hres
        subst en
        replace hP : va_P (dC, dI) vwCl [(h0, .inr (0, [.ref h1, .ref h2, .int (nI n2), .int (nI p2)])), (h1, .inl (cA, 512, .inl M2)), (h2, .inl (cB, 512, .inl S2)), (o0, .inl (cO, 1, .inr (.inl fo2))), (a0, .inr (1, [.int (zv (!b2)), .int (nI n2), .ref a1])), (a1, .inl (cM, 16385, .inl F2))] H := hP
        replace hD : va_D (fun q : Nat => s.heap.size ≤ q) [(h0, .inr (0, [.ref h1, .ref h2, .int (nI n2), .int (nI p2)])), (h1, .inl (cA, 512, .inl M2)), (h2, .inl (cB, 512, .inl S2)), (o0, .inl (cO, 1, .inr (.inl fo2))), (a0, .inr (1, [.int (zv (!b2)), .int (nI n2), .ref a1])), (a1, .inl (cM, 16385, .inl F2))] := hD
        refine lv_istore (lv' := [(6, .int rm_), (5, .int kv), (0, .ref b), (1, .ref h0), (2, .ref a0), (3, .ref o0), (4, .int (nI (3 * t)))]) hx hb d_L_law_459 hl (by decide) rfl (fun ls hl => ?_)
        refine lv_aload_n hx hb d_L_law_461 rfl (lv_at hl 4 rfl) ?_
        refine cc_Vi (wc := [(a0, .inr (1, [.int (zv (!b2)), .int (nI n2), .ref a1])), (a1, .inl (cM, 16385, .inl F2))]) (wr := [(h0, .inr (0, [.ref h1, .ref h2, .int (nI n2), .int (nI p2)])), (h1, .inl (cA, 512, .inl M2)), (h2, .inl (cB, 512, .inl S2)), (o0, .inl (cO, 1, .inr (.inl fo2)))]) (tys' := [(cM, .boolean)]) ⟨hx, hb, hml, hown, hts⟩ hP hD hK hS hA [4, 5] [0, 1, 2, 3] [2] rfl rfl rfl (by decide) (by decide) (by decide) rfl (cM_thrown l dC dI a0 a1 cM _ F2 G2 n2 (zv (!b2)) hF2) (cwV 0 hts g_L_52 rfl rfl rfl (by decide +kernel) ⟨Nat.le_of_ble_eq_true rfl, Nat.le_of_ble_eq_true rfl⟩) 0 1 rfl rfl rfl rfl hl.1 rfl (Nat.le_of_ble_eq_true rfl) d_L_law_462 ⟨by show cs + 1 + 0 + 0 ≤ 1035; omega, by show sl + 6 + 0 + 0 ≤ 25639; omega⟩ (fun rt v H locs hv2 hP hD hS => ?_)
        subst hv2
        replace hP : va_P (dC, dI) vwCl [(h0, .inr (0, [.ref h1, .ref h2, .int (nI n2), .int (nI p2)])), (h1, .inl (cA, 512, .inl M2)), (h2, .inl (cB, 512, .inl S2)), (o0, .inl (cO, 1, .inr (.inl fo2))), (a0, .inr (1, [.int (zv (!b2)), .int (nI n2), .ref a1])), (a1, .inl (cM, 16385, .inl F2))] H := hP
        replace hD : va_D (fun q : Nat => s.heap.size ≤ q) [(h0, .inr (0, [.ref h1, .ref h2, .int (nI n2), .int (nI p2)])), (h1, .inl (cA, 512, .inl M2)), (h2, .inl (cB, 512, .inl S2)), (o0, .inl (cO, 1, .inr (.inl fo2))), (a0, .inr (1, [.int (zv (!b2)), .int (nI n2), .ref a1])), (a1, .inl (cM, 16385, .inl F2))] := hD
        rcases hres with ⟨rfl, rfl, eo⟩ | ⟨rfl, rfl⟩
        · refine lv_iload hx hb d_L_law_465 (lv_at hl 1 rfl) ?_
          refine lv_icmp_eq (tgt := 472) hx hb d_L_law_467 (by decide) (fun c3 => ?_) (fun c3 => ?_)
          · refine lv_iload hx hb d_L_law_472 (lv_at hl 1 rfl) ?_
            refine lv_if_ne (tgt := 489) hx hb d_L_law_474 (by decide) (fun c4 => ?_) (fun c4 => ?_)
            · replace c4 : ¬ (0 = 0) := fun h9 => c4 ((nI_eq (a := 0) (b := 0) (by omega) (by omega)).mpr h9)
              exact absurd rfl c4
            · replace c4 : 0 = 0 := (nI_eq (a := 0) (b := 0) (by omega) (by omega)).mp c4
              refine lv_aload_n hx hb d_L_law_477 rfl (lv_at hl 5 rfl) ?_
              refine lv_iconst (v := nI 0) hx hb d_L_law_478 (by decide) ?_
              refine va_lald hx hb hK hP 3 3 rfl rfl (vp_in_nI (by omega) (by decide)) d_L_law_479 ?_
              rw [nI_clamp (by omega)]
              refine lv_iload hx hb d_L_law_480 (lv_at hl 0 rfl) ?_
              refine lv_i2l (v := rm_.toInt64) hx hb d_L_law_482 rfl ?_
              refine W.lcmp hx hb d_L_law_483 ?_
              refine lv_if_eq (tgt := 489) hx hb d_L_law_484 (by decide) (fun c5 => ?_) (fun c5 => ?_)
              · refine lv_goto (tgt := 604) hx hb d_L_law_489 (by decide) ?_
                refine lv_iinc (v := nI ((3 * t) + 3)) (lv' := [(4, .int (nI ((3 * t) + 3))), (6, .int rm_), (5, .int (nI 0)), (0, .ref b), (1, .ref h0), (2, .ref a0), (3, .ref o0)]) hx hb d_L_law_604 hl (k := 6) rfl (nI_add _ _) (by decide) rfl (fun ls hl => ?_)
                refine lv_goto (tgt := 23) hx hb d_L_law_607 (by decide) ?_
                exact ih (t + 1) n2 p2 M2 S2 fo2 (zv (!true)) F2 G2 (by omega) (by omega) g2 hF2 gR2 _ _ _ _ (by omega) (by omega) hP hD hS ls (lv_sub hl [3, 4, 5, 6, 0] rfl)
              · exact absurd (by (rw [eo]; exact z_cmp _)) c5
          · exact absurd rfl c3
        · refine lv_iload hx hb d_L_law_465 (lv_at hl 1 rfl) ?_
          refine lv_icmp_eq (tgt := 472) hx hb d_L_law_467 (by decide) (fun c3 => ?_) (fun c3 => ?_)
          · refine lv_iload hx hb d_L_law_472 (lv_at hl 1 rfl) ?_
            refine lv_if_ne (tgt := 489) hx hb d_L_law_474 (by decide) (fun c4 => ?_) (fun c4 => ?_)
            · replace c4 : ¬ (1 = 0) := fun h9 => c4 ((nI_eq (a := 1) (b := 0) (by omega) (by omega)).mpr h9)
              refine lv_goto (tgt := 604) hx hb d_L_law_489 (by decide) ?_
              refine lv_iinc (v := nI ((3 * t) + 3)) (lv' := [(4, .int (nI ((3 * t) + 3))), (6, .int rm_), (5, .int (nI 1)), (0, .ref b), (1, .ref h0), (2, .ref a0), (3, .ref o0)]) hx hb d_L_law_604 hl (k := 6) rfl (nI_add _ _) (by decide) rfl (fun ls hl => ?_)
              refine lv_goto (tgt := 23) hx hb d_L_law_607 (by decide) ?_
              exact ih (t + 1) n2 p2 M2 S2 fo2 (zv (!false)) F2 G2 (by omega) (by omega) g2 hF2 gR2 _ _ _ _ (by omega) (by omega) hP hD hS ls (lv_sub hl [3, 4, 5, 6, 0] rfl)
            · replace c4 : 1 = 0 := (nI_eq (a := 1) (b := 0) (by omega) (by omega)).mp c4
              exact absurd c4 (by decide)
          · exact absurd rfl c3
      · refine lv_tableIn (tgt := 492) (off := 453) hx hb d_L_law_39 (by decide) (by decide) (by decide) (by decide) ?_
        refine lv_aload_n hx hb d_L_law_492 rfl (lv_at hl 1 rfl) ?_
        refine lv_aload_n hx hb d_L_law_493 rfl (lv_at hl 0 rfl) ?_
        refine lv_iload hx hb d_L_law_494 (lv_at hl 4 rfl) ?_
        refine lv_iconst (v := nI 1) hx hb d_L_law_496 (by decide) ?_
        refine lv_iadd hx hb d_L_law_497 ?_
        refine lv_topi (nm_r (show _ = nI ((3 * t) + 1) from nI_add _ _) ?_)
        refine va_sld hx hb hX hbl hbA hS (vp_in_nI (by omega) (by omega)) d_L_law_498 ?_
        refine lv_topi (nm_r (show _ = xs ((3 * t) + 1) from by rw [nI_clamp (by omega)]) ?_)
        refine lv_aload_n hx hb d_L_law_499 rfl (lv_at hl 3 rfl) ?_
        refine cw_Si (wc := [(h0, .inr (0, [.ref h1, .ref h2, .int (nI nn), .int (nI pp)])), (h1, .inl (cA, 512, .inl M)), (h2, .inl (cB, 512, .inl S)), (o0, .inl (cO, 1, .inr (.inl fo)))]) (wr := [(a0, .inr (1, [.int th, .int (nI nn), .ref a1])), (a1, .inl (cM, 16385, .inl F))]) (tys' := [(cA, .int), (cB, .int), (cO, .long)]) ⟨hx, hb, hml, hown, hts⟩ hP hD hK hS hA hZ [0, 1, 2, 3] [4, 5] [0, 1, 3] rfl rfl rfl (by decide) (by decide) (by decide) rfl (cL_begins l hlt dC dI h0 h1 h2 o0 cA cB cO _ M S nn pp fo g0 (xs (3 * t + 1))) (vx_cwSW 3 hts g_L_75 rfl rfl rfl (by decide +kernel) ⟨Nat.le_of_ble_eq_true rfl, Nat.le_of_ble_eq_true rfl⟩) rfl hl.1 rfl (Nat.le_of_ble_eq_true rfl) d_L_law_500 ⟨by show cs + 1 ≤ 1035; omega, by show sl + 6 ≤ 25639; omega⟩ (fun kv u H locs hw hP hD hS => ?_)
        obtain ⟨⟨n2, p2, M2, S2⟩, fo2⟩ := u
        replace hP : va_P (dC, dI) vwCl [(a0, .inr (1, [.int th, .int (nI nn), .ref a1])), (a1, .inl (cM, 16385, .inl F)), (h0, .inr (0, [.ref h1, .ref h2, .int (nI n2), .int (nI p2)])), (h1, .inl (cA, 512, .inl M2)), (h2, .inl (cB, 512, .inl S2)), (o0, .inl (cO, 1, .inr (.inl fo2)))] H := hP
        replace hD : va_D (fun q : Nat => s.heap.size ≤ q) [(a0, .inr (1, [.int th, .int (nI nn), .ref a1])), (a1, .inl (cM, 16385, .inl F)), (h0, .inr (0, [.ref h1, .ref h2, .int (nI n2), .int (nI p2)])), (h1, .inl (cA, 512, .inl M2)), (h2, .inl (cB, 512, .inl S2)), (o0, .inl (cO, 1, .inr (.inl fo2)))] := hD
        refine lv_istore (lv' := [(5, .int kv), (0, .ref b), (1, .ref h0), (2, .ref a0), (3, .ref o0), (4, .int (nI (3 * t)))]) hx hb d_L_law_503 hl (by decide) rfl (fun ls hl => ?_)
        refine lv_aload_n hx hb d_L_law_505 rfl (lv_at hl 3 rfl) ?_
        refine lv_aload_n hx hb d_L_law_506 rfl (lv_at hl 1 rfl) ?_
        refine lv_iload hx hb d_L_law_507 (lv_at hl 5 rfl) ?_
        refine lv_iconst (v := nI 1) hx hb d_L_law_509 (by decide) ?_
        refine lv_iadd hx hb d_L_law_510 ?_
        refine lv_topi (nm_r (show _ = nI ((3 * t) + 1) from nI_add _ _) ?_)
        refine va_sld hx hb hX hbl hbA hS (vp_in_nI (by omega) (by omega)) d_L_law_511 ?_
        refine lv_topi (nm_r (show _ = xs ((3 * t) + 1) from by rw [nI_clamp (by omega)]) ?_)
        refine cc_Vi (wc := [(a0, .inr (1, [.int th, .int (nI nn), .ref a1])), (a1, .inl (cM, 16385, .inl F))]) (wr := [(h0, .inr (0, [.ref h1, .ref h2, .int (nI n2), .int (nI p2)])), (h1, .inl (cA, 512, .inl M2)), (h2, .inl (cB, 512, .inl S2)), (o0, .inl (cO, 1, .inr (.inl fo2)))]) (tys' := [(cM, .boolean)]) ⟨hx, hb, hml, hown, hts⟩ hP hD hK hS hA [0, 1] [2, 3, 4, 5] [2] rfl rfl rfl (by decide) (by decide) (by decide) rfl (cM_begins l dC dI a0 a1 cM _ F G nn th hF (xs (3 * t + 1)) i2 gG0 gR.2) (cwV 1 hts g_L_77 rfl rfl rfl (by decide +kernel) ⟨Nat.le_of_ble_eq_true rfl, Nat.le_of_ble_eq_true rfl⟩) 0 1 rfl rfl rfl rfl hl.1 rfl (Nat.le_of_ble_eq_true rfl) d_L_law_512 ⟨by show cs + 1 + 0 ≤ 1035; omega, by show sl + 6 + 0 ≤ 25639; omega⟩ (fun rm_ v H locs hv hP hD hS => ?_)
        obtain ⟨b2, F2, G2⟩ := v
        obtain ⟨hF2, hv⟩ := hv
        dsimp only at hF2 hv
        replace hP : va_P (dC, dI) vwCl [(h0, .inr (0, [.ref h1, .ref h2, .int (nI n2), .int (nI p2)])), (h1, .inl (cA, 512, .inl M2)), (h2, .inl (cB, 512, .inl S2)), (o0, .inl (cO, 1, .inr (.inl fo2))), (a0, .inr (1, [.int (zv (!b2)), .int (nI nn), .ref a1])), (a1, .inl (cM, 16385, .inl F2))] H := hP
        replace hD : va_D (fun q : Nat => s.heap.size ≤ q) [(h0, .inr (0, [.ref h1, .ref h2, .int (nI n2), .int (nI p2)])), (h1, .inl (cA, 512, .inl M2)), (h2, .inl (cB, 512, .inl S2)), (o0, .inl (cO, 1, .inr (.inl fo2))), (a0, .inr (1, [.int (zv (!b2)), .int (nI nn), .ref a1])), (a1, .inl (cM, 16385, .inl F2))] := hD
        have hT := tie_begins g0 gR hw hv
        obtain ⟨g2, en, gR2, hres⟩ := hT
        dsimp only at g2 en gR2 hres
        subst en
        replace hP : va_P (dC, dI) vwCl [(h0, .inr (0, [.ref h1, .ref h2, .int (nI n2), .int (nI p2)])), (h1, .inl (cA, 512, .inl M2)), (h2, .inl (cB, 512, .inl S2)), (o0, .inl (cO, 1, .inr (.inl fo2))), (a0, .inr (1, [.int (zv (!b2)), .int (nI n2), .ref a1])), (a1, .inl (cM, 16385, .inl F2))] H := hP
        replace hD : va_D (fun q : Nat => s.heap.size ≤ q) [(h0, .inr (0, [.ref h1, .ref h2, .int (nI n2), .int (nI p2)])), (h1, .inl (cA, 512, .inl M2)), (h2, .inl (cB, 512, .inl S2)), (o0, .inl (cO, 1, .inr (.inl fo2))), (a0, .inr (1, [.int (zv (!b2)), .int (nI n2), .ref a1])), (a1, .inl (cM, 16385, .inl F2))] := hD
        refine lv_istore (lv' := [(6, .int rm_), (5, .int kv), (0, .ref b), (1, .ref h0), (2, .ref a0), (3, .ref o0), (4, .int (nI (3 * t)))]) hx hb d_L_law_515 hl (by decide) rfl (fun ls hl => ?_)
        refine lv_aload_n hx hb d_L_law_517 rfl (lv_at hl 4 rfl) ?_
        refine cc_Vi (wc := [(a0, .inr (1, [.int (zv (!b2)), .int (nI n2), .ref a1])), (a1, .inl (cM, 16385, .inl F2))]) (wr := [(h0, .inr (0, [.ref h1, .ref h2, .int (nI n2), .int (nI p2)])), (h1, .inl (cA, 512, .inl M2)), (h2, .inl (cB, 512, .inl S2)), (o0, .inl (cO, 1, .inr (.inl fo2)))]) (tys' := [(cM, .boolean)]) ⟨hx, hb, hml, hown, hts⟩ hP hD hK hS hA [4, 5] [0, 1, 2, 3] [2] rfl rfl rfl (by decide) (by decide) (by decide) rfl (cM_thrown l dC dI a0 a1 cM _ F2 G2 n2 (zv (!b2)) hF2) (cwV 0 hts g_L_52 rfl rfl rfl (by decide +kernel) ⟨Nat.le_of_ble_eq_true rfl, Nat.le_of_ble_eq_true rfl⟩) 0 1 rfl rfl rfl rfl hl.1 rfl (Nat.le_of_ble_eq_true rfl) d_L_law_518 ⟨by show cs + 1 + 0 + 0 ≤ 1035; omega, by show sl + 6 + 0 + 0 ≤ 25639; omega⟩ (fun rt v H locs hv2 hP hD hS => ?_)
        subst hv2
        replace hP : va_P (dC, dI) vwCl [(h0, .inr (0, [.ref h1, .ref h2, .int (nI n2), .int (nI p2)])), (h1, .inl (cA, 512, .inl M2)), (h2, .inl (cB, 512, .inl S2)), (o0, .inl (cO, 1, .inr (.inl fo2))), (a0, .inr (1, [.int (zv (!b2)), .int (nI n2), .ref a1])), (a1, .inl (cM, 16385, .inl F2))] H := hP
        replace hD : va_D (fun q : Nat => s.heap.size ≤ q) [(h0, .inr (0, [.ref h1, .ref h2, .int (nI n2), .int (nI p2)])), (h1, .inl (cA, 512, .inl M2)), (h2, .inl (cB, 512, .inl S2)), (o0, .inl (cO, 1, .inr (.inl fo2))), (a0, .inr (1, [.int (zv (!b2)), .int (nI n2), .ref a1])), (a1, .inl (cM, 16385, .inl F2))] := hD
        rcases hres with ⟨rfl, rfl, eo⟩ | ⟨rfl, rfl⟩
        · refine lv_iload hx hb d_L_law_521 (lv_at hl 1 rfl) ?_
          refine lv_icmp_eq (tgt := 528) hx hb d_L_law_523 (by decide) (fun c3 => ?_) (fun c3 => ?_)
          · refine lv_iload hx hb d_L_law_528 (lv_at hl 1 rfl) ?_
            refine lv_if_ne (tgt := 545) hx hb d_L_law_530 (by decide) (fun c4 => ?_) (fun c4 => ?_)
            · replace c4 : ¬ (0 = 0) := fun h9 => c4 ((nI_eq (a := 0) (b := 0) (by omega) (by omega)).mpr h9)
              exact absurd rfl c4
            · replace c4 : 0 = 0 := (nI_eq (a := 0) (b := 0) (by omega) (by omega)).mp c4
              refine lv_aload_n hx hb d_L_law_533 rfl (lv_at hl 5 rfl) ?_
              refine lv_iconst (v := nI 0) hx hb d_L_law_534 (by decide) ?_
              refine va_lald hx hb hK hP 3 3 rfl rfl (vp_in_nI (by omega) (by decide)) d_L_law_535 ?_
              rw [nI_clamp (by omega)]
              refine lv_iload hx hb d_L_law_536 (lv_at hl 0 rfl) ?_
              refine lv_i2l (v := rm_.toInt64) hx hb d_L_law_538 rfl ?_
              refine W.lcmp hx hb d_L_law_539 ?_
              refine lv_if_eq (tgt := 545) hx hb d_L_law_540 (by decide) (fun c5 => ?_) (fun c5 => ?_)
              · refine lv_goto (tgt := 604) hx hb d_L_law_545 (by decide) ?_
                refine lv_iinc (v := nI ((3 * t) + 3)) (lv' := [(4, .int (nI ((3 * t) + 3))), (6, .int rm_), (5, .int (nI 0)), (0, .ref b), (1, .ref h0), (2, .ref a0), (3, .ref o0)]) hx hb d_L_law_604 hl (k := 6) rfl (nI_add _ _) (by decide) rfl (fun ls hl => ?_)
                refine lv_goto (tgt := 23) hx hb d_L_law_607 (by decide) ?_
                exact ih (t + 1) n2 p2 M2 S2 fo2 (zv (!true)) F2 G2 (by omega) (by omega) g2 hF2 gR2 _ _ _ _ (by omega) (by omega) hP hD hS ls (lv_sub hl [3, 4, 5, 6, 0] rfl)
              · exact absurd (by (rw [eo]; exact z_cmp _)) c5
          · exact absurd rfl c3
        · refine lv_iload hx hb d_L_law_521 (lv_at hl 1 rfl) ?_
          refine lv_icmp_eq (tgt := 528) hx hb d_L_law_523 (by decide) (fun c3 => ?_) (fun c3 => ?_)
          · refine lv_iload hx hb d_L_law_528 (lv_at hl 1 rfl) ?_
            refine lv_if_ne (tgt := 545) hx hb d_L_law_530 (by decide) (fun c4 => ?_) (fun c4 => ?_)
            · replace c4 : ¬ (1 = 0) := fun h9 => c4 ((nI_eq (a := 1) (b := 0) (by omega) (by omega)).mpr h9)
              refine lv_goto (tgt := 604) hx hb d_L_law_545 (by decide) ?_
              refine lv_iinc (v := nI ((3 * t) + 3)) (lv' := [(4, .int (nI ((3 * t) + 3))), (6, .int rm_), (5, .int (nI 1)), (0, .ref b), (1, .ref h0), (2, .ref a0), (3, .ref o0)]) hx hb d_L_law_604 hl (k := 6) rfl (nI_add _ _) (by decide) rfl (fun ls hl => ?_)
              refine lv_goto (tgt := 23) hx hb d_L_law_607 (by decide) ?_
              exact ih (t + 1) n2 p2 M2 S2 fo2 (zv (!false)) F2 G2 (by omega) (by omega) g2 hF2 gR2 _ _ _ _ (by omega) (by omega) hP hD hS ls (lv_sub hl [3, 4, 5, 6, 0] rfl)
            · replace c4 : 1 = 0 := (nI_eq (a := 1) (b := 0) (by omega) (by omega)).mp c4
              exact absurd c4 (by decide)
          · exact absurd rfl c3
      · refine lv_tableIn (tgt := 548) (off := 509) hx hb d_L_law_39 (by decide) (by decide) (by decide) (by decide) ?_
        refine lv_aload_n hx hb d_L_law_548 rfl (lv_at hl 1 rfl) ?_
        refine lv_aload_n hx hb d_L_law_549 rfl (lv_at hl 0 rfl) ?_
        refine lv_iload hx hb d_L_law_550 (lv_at hl 4 rfl) ?_
        refine lv_iconst (v := nI 1) hx hb d_L_law_552 (by decide) ?_
        refine lv_iadd hx hb d_L_law_553 ?_
        refine lv_topi (nm_r (show _ = nI ((3 * t) + 1) from nI_add _ _) ?_)
        refine va_sld hx hb hX hbl hbA hS (vp_in_nI (by omega) (by omega)) d_L_law_554 ?_
        refine lv_topi (nm_r (show _ = xs ((3 * t) + 1) from by rw [nI_clamp (by omega)]) ?_)
        refine lv_aload_n hx hb d_L_law_555 rfl (lv_at hl 3 rfl) ?_
        refine cw_Si (wc := [(h0, .inr (0, [.ref h1, .ref h2, .int (nI nn), .int (nI pp)])), (h1, .inl (cA, 512, .inl M)), (h2, .inl (cB, 512, .inl S)), (o0, .inl (cO, 1, .inr (.inl fo)))]) (wr := [(a0, .inr (1, [.int th, .int (nI nn), .ref a1])), (a1, .inl (cM, 16385, .inl F))]) (tys' := [(cA, .int), (cB, .int), (cO, .long)]) ⟨hx, hb, hml, hown, hts⟩ hP hD hK hS hA hZ [0, 1, 2, 3] [4, 5] [0, 1, 3] rfl rfl rfl (by decide) (by decide) (by decide) rfl (cL_count l hlt dC dI h0 h1 h2 o0 cA cB cO _ M S nn pp fo g0 (xs (3 * t + 1))) (vx_cwSW 3 hts g_L_78 rfl rfl rfl (by decide +kernel) ⟨Nat.le_of_ble_eq_true rfl, Nat.le_of_ble_eq_true rfl⟩) rfl hl.1 rfl (Nat.le_of_ble_eq_true rfl) d_L_law_556 ⟨by show cs + 1 ≤ 1035; omega, by show sl + 6 ≤ 25639; omega⟩ (fun kv u H locs hw hP hD hS => ?_)
        obtain ⟨⟨n2, p2, M2, S2⟩, fo2⟩ := u
        replace hP : va_P (dC, dI) vwCl [(a0, .inr (1, [.int th, .int (nI nn), .ref a1])), (a1, .inl (cM, 16385, .inl F)), (h0, .inr (0, [.ref h1, .ref h2, .int (nI n2), .int (nI p2)])), (h1, .inl (cA, 512, .inl M2)), (h2, .inl (cB, 512, .inl S2)), (o0, .inl (cO, 1, .inr (.inl fo2)))] H := hP
        replace hD : va_D (fun q : Nat => s.heap.size ≤ q) [(a0, .inr (1, [.int th, .int (nI nn), .ref a1])), (a1, .inl (cM, 16385, .inl F)), (h0, .inr (0, [.ref h1, .ref h2, .int (nI n2), .int (nI p2)])), (h1, .inl (cA, 512, .inl M2)), (h2, .inl (cB, 512, .inl S2)), (o0, .inl (cO, 1, .inr (.inl fo2)))] := hD
        refine lv_istore (lv' := [(5, .int kv), (0, .ref b), (1, .ref h0), (2, .ref a0), (3, .ref o0), (4, .int (nI (3 * t)))]) hx hb d_L_law_559 hl (by decide) rfl (fun ls hl => ?_)
        refine lv_aload_n hx hb d_L_law_561 rfl (lv_at hl 3 rfl) ?_
        refine lv_aload_n hx hb d_L_law_562 rfl (lv_at hl 1 rfl) ?_
        refine lv_iload hx hb d_L_law_563 (lv_at hl 5 rfl) ?_
        refine lv_iconst (v := nI 1) hx hb d_L_law_565 (by decide) ?_
        refine lv_iadd hx hb d_L_law_566 ?_
        refine lv_topi (nm_r (show _ = nI ((3 * t) + 1) from nI_add _ _) ?_)
        refine va_sld hx hb hX hbl hbA hS (vp_in_nI (by omega) (by omega)) d_L_law_567 ?_
        refine lv_topi (nm_r (show _ = xs ((3 * t) + 1) from by rw [nI_clamp (by omega)]) ?_)
        refine cc_Vi (wc := [(a0, .inr (1, [.int th, .int (nI nn), .ref a1])), (a1, .inl (cM, 16385, .inl F))]) (wr := [(h0, .inr (0, [.ref h1, .ref h2, .int (nI n2), .int (nI p2)])), (h1, .inl (cA, 512, .inl M2)), (h2, .inl (cB, 512, .inl S2)), (o0, .inl (cO, 1, .inr (.inl fo2)))]) (tys' := [(cM, .boolean)]) ⟨hx, hb, hml, hown, hts⟩ hP hD hK hS hA [0, 1] [2, 3, 4, 5] [2] rfl rfl rfl (by decide) (by decide) (by decide) rfl (cM_count l dC dI a0 a1 cM _ F G nn th hF (xs (3 * t + 1)) i1 i2 gG0 gR.2) (cwV 1 hts g_L_80 rfl rfl rfl (by decide +kernel) ⟨Nat.le_of_ble_eq_true rfl, Nat.le_of_ble_eq_true rfl⟩) 0 1 rfl rfl rfl rfl hl.1 rfl (Nat.le_of_ble_eq_true rfl) d_L_law_568 ⟨by show cs + 1 + 0 ≤ 1035; omega, by show sl + 6 + 0 ≤ 25639; omega⟩ (fun rm_ v H locs hv hP hD hS => ?_)
        obtain ⟨b2, F2, G2⟩ := v
        obtain ⟨hF2, hv⟩ := hv
        dsimp only at hF2 hv
        replace hP : va_P (dC, dI) vwCl [(h0, .inr (0, [.ref h1, .ref h2, .int (nI n2), .int (nI p2)])), (h1, .inl (cA, 512, .inl M2)), (h2, .inl (cB, 512, .inl S2)), (o0, .inl (cO, 1, .inr (.inl fo2))), (a0, .inr (1, [.int (zv (!b2)), .int (nI nn), .ref a1])), (a1, .inl (cM, 16385, .inl F2))] H := hP
        replace hD : va_D (fun q : Nat => s.heap.size ≤ q) [(h0, .inr (0, [.ref h1, .ref h2, .int (nI n2), .int (nI p2)])), (h1, .inl (cA, 512, .inl M2)), (h2, .inl (cB, 512, .inl S2)), (o0, .inl (cO, 1, .inr (.inl fo2))), (a0, .inr (1, [.int (zv (!b2)), .int (nI nn), .ref a1])), (a1, .inl (cM, 16385, .inl F2))] := hD
        have hT := tie_count g0 gR hw hv
        obtain ⟨g2, en, gR2, hres⟩ := hT
        dsimp only at g2 en gR2 hres
        subst en
        replace hP : va_P (dC, dI) vwCl [(h0, .inr (0, [.ref h1, .ref h2, .int (nI n2), .int (nI p2)])), (h1, .inl (cA, 512, .inl M2)), (h2, .inl (cB, 512, .inl S2)), (o0, .inl (cO, 1, .inr (.inl fo2))), (a0, .inr (1, [.int (zv (!b2)), .int (nI n2), .ref a1])), (a1, .inl (cM, 16385, .inl F2))] H := hP
        replace hD : va_D (fun q : Nat => s.heap.size ≤ q) [(h0, .inr (0, [.ref h1, .ref h2, .int (nI n2), .int (nI p2)])), (h1, .inl (cA, 512, .inl M2)), (h2, .inl (cB, 512, .inl S2)), (o0, .inl (cO, 1, .inr (.inl fo2))), (a0, .inr (1, [.int (zv (!b2)), .int (nI n2), .ref a1])), (a1, .inl (cM, 16385, .inl F2))] := hD
        refine lv_istore (lv' := [(6, .int rm_), (5, .int kv), (0, .ref b), (1, .ref h0), (2, .ref a0), (3, .ref o0), (4, .int (nI (3 * t)))]) hx hb d_L_law_571 hl (by decide) rfl (fun ls hl => ?_)
        refine lv_aload_n hx hb d_L_law_573 rfl (lv_at hl 4 rfl) ?_
        refine cc_Vi (wc := [(a0, .inr (1, [.int (zv (!b2)), .int (nI n2), .ref a1])), (a1, .inl (cM, 16385, .inl F2))]) (wr := [(h0, .inr (0, [.ref h1, .ref h2, .int (nI n2), .int (nI p2)])), (h1, .inl (cA, 512, .inl M2)), (h2, .inl (cB, 512, .inl S2)), (o0, .inl (cO, 1, .inr (.inl fo2)))]) (tys' := [(cM, .boolean)]) ⟨hx, hb, hml, hown, hts⟩ hP hD hK hS hA [4, 5] [0, 1, 2, 3] [2] rfl rfl rfl (by decide) (by decide) (by decide) rfl (cM_thrown l dC dI a0 a1 cM _ F2 G2 n2 (zv (!b2)) hF2) (cwV 0 hts g_L_52 rfl rfl rfl (by decide +kernel) ⟨Nat.le_of_ble_eq_true rfl, Nat.le_of_ble_eq_true rfl⟩) 0 1 rfl rfl rfl rfl hl.1 rfl (Nat.le_of_ble_eq_true rfl) d_L_law_574 ⟨by show cs + 1 + 0 + 0 ≤ 1035; omega, by show sl + 6 + 0 + 0 ≤ 25639; omega⟩ (fun rt v H locs hv2 hP hD hS => ?_)
        subst hv2
        replace hP : va_P (dC, dI) vwCl [(h0, .inr (0, [.ref h1, .ref h2, .int (nI n2), .int (nI p2)])), (h1, .inl (cA, 512, .inl M2)), (h2, .inl (cB, 512, .inl S2)), (o0, .inl (cO, 1, .inr (.inl fo2))), (a0, .inr (1, [.int (zv (!b2)), .int (nI n2), .ref a1])), (a1, .inl (cM, 16385, .inl F2))] H := hP
        replace hD : va_D (fun q : Nat => s.heap.size ≤ q) [(h0, .inr (0, [.ref h1, .ref h2, .int (nI n2), .int (nI p2)])), (h1, .inl (cA, 512, .inl M2)), (h2, .inl (cB, 512, .inl S2)), (o0, .inl (cO, 1, .inr (.inl fo2))), (a0, .inr (1, [.int (zv (!b2)), .int (nI n2), .ref a1])), (a1, .inl (cM, 16385, .inl F2))] := hD
        rcases hres with ⟨rfl, rfl, eo⟩ | ⟨rfl, rfl⟩
        · refine lv_iload hx hb d_L_law_577 (lv_at hl 1 rfl) ?_
          refine lv_icmp_eq (tgt := 584) hx hb d_L_law_579 (by decide) (fun c3 => ?_) (fun c3 => ?_)
          · refine lv_iload hx hb d_L_law_584 (lv_at hl 1 rfl) ?_
            refine lv_if_ne (tgt := 601) hx hb d_L_law_586 (by decide) (fun c4 => ?_) (fun c4 => ?_)
            · replace c4 : ¬ (0 = 0) := fun h9 => c4 ((nI_eq (a := 0) (b := 0) (by omega) (by omega)).mpr h9)
              exact absurd rfl c4
            · replace c4 : 0 = 0 := (nI_eq (a := 0) (b := 0) (by omega) (by omega)).mp c4
              refine lv_aload_n hx hb d_L_law_589 rfl (lv_at hl 5 rfl) ?_
              refine lv_iconst (v := nI 0) hx hb d_L_law_590 (by decide) ?_
              refine va_lald hx hb hK hP 3 3 rfl rfl (vp_in_nI (by omega) (by decide)) d_L_law_591 ?_
              rw [nI_clamp (by omega)]
              refine lv_iload hx hb d_L_law_592 (lv_at hl 0 rfl) ?_
              refine lv_i2l (v := rm_.toInt64) hx hb d_L_law_594 rfl ?_
              refine W.lcmp hx hb d_L_law_595 ?_
              refine lv_if_eq (tgt := 601) hx hb d_L_law_596 (by decide) (fun c5 => ?_) (fun c5 => ?_)
              · refine lv_goto (tgt := 604) hx hb d_L_law_601 (by decide) ?_
                refine lv_iinc (v := nI ((3 * t) + 3)) (lv' := [(4, .int (nI ((3 * t) + 3))), (6, .int rm_), (5, .int (nI 0)), (0, .ref b), (1, .ref h0), (2, .ref a0), (3, .ref o0)]) hx hb d_L_law_604 hl (k := 6) rfl (nI_add _ _) (by decide) rfl (fun ls hl => ?_)
                refine lv_goto (tgt := 23) hx hb d_L_law_607 (by decide) ?_
                exact ih (t + 1) n2 p2 M2 S2 fo2 (zv (!true)) F2 G2 (by omega) (by omega) g2 hF2 gR2 _ _ _ _ (by omega) (by omega) hP hD hS ls (lv_sub hl [3, 4, 5, 6, 0] rfl)
              · exact absurd (by (rw [eo]; exact z_cmp _)) c5
          · exact absurd rfl c3
        · refine lv_iload hx hb d_L_law_577 (lv_at hl 1 rfl) ?_
          refine lv_icmp_eq (tgt := 584) hx hb d_L_law_579 (by decide) (fun c3 => ?_) (fun c3 => ?_)
          · refine lv_iload hx hb d_L_law_584 (lv_at hl 1 rfl) ?_
            refine lv_if_ne (tgt := 601) hx hb d_L_law_586 (by decide) (fun c4 => ?_) (fun c4 => ?_)
            · replace c4 : ¬ (1 = 0) := fun h9 => c4 ((nI_eq (a := 1) (b := 0) (by omega) (by omega)).mpr h9)
              refine lv_goto (tgt := 604) hx hb d_L_law_601 (by decide) ?_
              refine lv_iinc (v := nI ((3 * t) + 3)) (lv' := [(4, .int (nI ((3 * t) + 3))), (6, .int rm_), (5, .int (nI 1)), (0, .ref b), (1, .ref h0), (2, .ref a0), (3, .ref o0)]) hx hb d_L_law_604 hl (k := 6) rfl (nI_add _ _) (by decide) rfl (fun ls hl => ?_)
              refine lv_goto (tgt := 23) hx hb d_L_law_607 (by decide) ?_
              exact ih (t + 1) n2 p2 M2 S2 fo2 (zv (!false)) F2 G2 (by omega) (by omega) g2 hF2 gR2 _ _ _ _ (by omega) (by omega) hP hD hS ls (lv_sub hl [3, 4, 5, 6, 0] rfl)
            · replace c4 : 1 = 0 := (nI_eq (a := 1) (b := 0) (by omega) (by omega)).mp c4
              exact absurd c4 (by decide)
          · exact absurd rfl c3
      · refine lv_tableOut (tgt := 604) hx hb d_L_law_39 (Or.inr (by rw [nI_toInt (by omega)]; omega)) (by decide) ?_
        refine lv_iinc (v := nI ((3 * t) + 3)) (lv' := [(4, .int (nI ((3 * t) + 3))), (0, .ref b), (1, .ref h0), (2, .ref a0), (3, .ref o0)]) hx hb d_L_law_604 hl (k := 4) rfl (nI_add _ _) (by decide) rfl (fun ls hl => ?_)
        refine lv_goto (tgt := 23) hx hb d_L_law_607 (by decide) ?_
        exact ih (t + 1) nn pp M S fo th F G (by omega) (by omega) g0 hF gR _ _ _ _ (by omega) (by omega) hP hD hS ls (lv_sub hl [1, 2, 3, 4, 0] rfl)
end
section
set_option maxHeartbeats 40000000 in
set_option maxRecDepth 100000 in
/-- THE LAW, from its entry -/
theorem whole_start {p : Program} {e : Env} {s : State} {m : MethodId} {below : List Frame} {meth : Method} {c : Code} (l : Launch) (hlt : l.stackTraces = false) {b L : Nat} {xs : Nat → Int32} (hL : L ≤ 1536) (C0 : lw_At p s m meth c b L xs) : W p l e room_1 s m #[Value.ref b] below meth c s.heap [] 0 0 (lw_Z below #[Value.ref b] s) (entryFrame m ([Value.ref b] : List Value).toArray 7) := by
  obtain ⟨hx, hb, hr, hml, hown0, hts0, hX, hbl, hlocks, hgv⟩ := id C0
  have hown : s.vm.findClass RL = some m.cls := hown0
  have hts : ∀ w ∈ zAll, w.before #[Value.ref b] s = true := fun w h => hts0 w (List.mem_filter.mp h).1
  have hZ := zThr_0 hts0 hgv
  have hA : ∀ q : Nat, s.heap.size ≤ q → (fun q : Nat => s.heap.size ≤ q) q := fun _ h => h
  have hbA : ¬ (fun q : Nat => s.heap.size ≤ q) b := Nat.not_le.mpr hbl
  obtain ⟨c0, iS0, hKn0⟩ := u_known (C := RX) (T := TX) (N := 4) (n := 4) hts inX (hts _ wio_X)
  obtain ⟨c1, iS1, hKn1⟩ := u_known (C := RM) (T := TM) (N := 3) (n := 3) hts inM (hts _ wio_M)
  obtain ⟨dC, dI, hKc⟩ : ∃ (dC : Nat → ClassId) (dI : Nat → Nat → Nat), ∀ (k : Nat) (q : vw_C), vwCl[k]? = some q → u_Kn s q.1 q.2.1 q.2.2 (dC k) (dI k) := by
    refine ⟨fun k => if k = 0 then c0 else c1, fun k => if k = 0 then iS0 else iS1, ?_⟩
    intro k q hq
    match k, hq with
    | 0, hq => cases hq; exact hKn0
    | 1, hq => cases hq; exact hKn1
    | k + 2, hq => simp [vwCl] at hq
  have hS : va_S (fun q : Nat => s.heap.size ≤ q) s.heap s.heap [] := va_S.rf
  have hK : va_K (dC, dI) vwCl [] s := ⟨hKc, fun k q h => by simp at h⟩
  have hP : va_P (dC, dI) vwCl [] s.heap := fun k q h => by simp at h
  have hD : va_D (fun q : Nat => s.heap.size ≤ q) [] := ⟨fun i j p q h => by simp at h, fun k q h => by simp at h⟩
  have hl := lv_entry ([.ref b]) (n := 7) (Nat.le_of_ble_eq_true rfl)
  rw [lg_entry_eq]
  generalize (lg_sl ([.ref b]) ++ List.replicate (7 - (lg_sl ([.ref b])).length) Slot.unset).toArray = ls at hl ⊢
  replace hl : lv_has ls 7 [(0, .ref b)] := hl
  refine va_new (ci := 0) (fs := [.null, .null, .int 0, .int 0]) (C := RX) (T := TX) (N := 4) hx hb hts inX tyX tyX_ok hown (hts _ wl_L_8) (hts _ wio_X) (hts _ win_X) hK hP hD hS hA rfl (fun j hj => by rcases (show j = 0 ∨ j = 1 ∨ j = 2 ∨ j = 3 by omega) with rfl | rfl | rfl | rfl <;> rfl) (by decide) (by decide) d_L_law_0 (fun h0 H hP hD hS => ?_)
  replace hP : va_P (dC, dI) vwCl [(h0, .inr (0, [.null, .null, .int 0, .int 0]))] H := hP
  replace hD : va_D (fun q : Nat => s.heap.size ≤ q) [(h0, .inr (0, [.null, .null, .int 0, .int 0]))] := hD
  refine W.widen (k := 1) (n := 4) (by decide) (by decide) ?_
  refine lv_dup hx hb d_L_law_3 rfl ?_
  refine cc_I (wc := [(h0, .inr (0, [.null, .null, .int 0, .int 0]))]) (wr := []) (tys' := []) ⟨hx, hb, hml, hown, hts⟩ hP hD hK hS hA [0] [] [] rfl rfl rfl (by decide) (by decide) (by decide) rfl (c_init l dC dI h0 _) (cwI 0 hts g_L_42 rfl rfl rfl (hts _ win_X) (hts _ wl_L_42) (hts _ wim_X_init) rfl (by decide +kernel) ⟨Nat.le_of_ble_eq_true rfl, Nat.le_of_ble_eq_true rfl⟩) rfl hl.1 rfl (Nat.le_of_ble_eq_true rfl) d_L_law_4 ⟨Nat.le_of_ble_eq_true rfl, Nat.le_of_ble_eq_true rfl⟩ (fun u H locs hw hK hP hD hS => ?_)
  obtain ⟨h1, h2, cA, cB, M, S⟩ := u
  obtain ⟨g0, hM0⟩ := hw
  dsimp only at g0 hM0 hK hP hD
  replace hK : va_K (dC, dI) vwCl [(cA, .int), (cB, .int)] s := hK
  replace hP : va_P (dC, dI) vwCl [(h0, .inr (0, [.ref h1, .ref h2, .int (nI 1024), .int (nI 1)])), (h1, .inl (cA, 512, .inl M)), (h2, .inl (cB, 512, .inl S))] H := hP
  replace hD : va_D (fun q : Nat => s.heap.size ≤ q) [(h0, .inr (0, [.ref h1, .ref h2, .int (nI 1024), .int (nI 1)])), (h1, .inl (cA, 512, .inl M)), (h2, .inl (cB, 512, .inl S))] := hD
  refine W.widen (k := 3) (n := 1028) (by decide) (by decide) ?_
  refine lv_astore_n (lv' := [(1, .ref h0), (0, .ref b)]) hx hb d_L_law_7 rfl hl (by decide) rfl (fun ls hl => ?_)
  refine va_new (ci := 1) (fs := [.int 0, .int 0, .null]) (C := RM) (T := TM) (N := 3) hx hb hts inM tyM tyM_ok hown (hts _ wl_L_43) (hts _ wio_M) (hts _ win_M) hK hP hD hS hA rfl (fun j hj => by rcases (show j = 0 ∨ j = 1 ∨ j = 2 by omega) with rfl | rfl | rfl <;> rfl) (by decide) (by decide) d_L_law_8 (fun a0 H hP hD hS => ?_)
  replace hP : va_P (dC, dI) vwCl [(h0, .inr (0, [.ref h1, .ref h2, .int (nI 1024), .int (nI 1)])), (h1, .inl (cA, 512, .inl M)), (h2, .inl (cB, 512, .inl S)), (a0, .inr (1, [.int 0, .int 0, .null]))] H := hP
  replace hD : va_D (fun q : Nat => s.heap.size ≤ q) [(h0, .inr (0, [.ref h1, .ref h2, .int (nI 1024), .int (nI 1)])), (h1, .inl (cA, 512, .inl M)), (h2, .inl (cB, 512, .inl S)), (a0, .inr (1, [.int 0, .int 0, .null]))] := hD
  refine W.widen (k := 4) (n := 1031) (by decide) (by decide) ?_
  refine lv_dup hx hb d_L_law_11 rfl ?_
  refine cc_I (wc := [(a0, .inr (1, [.int 0, .int 0, .null]))]) (wr := [(h0, .inr (0, [.ref h1, .ref h2, .int (nI 1024), .int (nI 1)])), (h1, .inl (cA, 512, .inl M)), (h2, .inl (cB, 512, .inl S))]) (tys' := []) ⟨hx, hb, hml, hown, hts⟩ hP hD hK hS hA [3] [0, 1, 2] [] rfl rfl rfl (by decide) (by decide) (by decide) rfl (cM_init l dC dI a0 _) (cwI 0 hts g_L_45 rfl rfl rfl (hts _ win_M) (hts _ wl_L_45) (hts _ wim_M_init) rfl (by decide +kernel) ⟨Nat.le_of_ble_eq_true rfl, Nat.le_of_ble_eq_true rfl⟩) rfl hl.1 rfl (Nat.le_of_ble_eq_true rfl) d_L_law_12 ⟨Nat.le_of_ble_eq_true rfl, Nat.le_of_ble_eq_true rfl⟩ (fun u H locs hw hK hP hD hS => ?_)
  obtain ⟨a1, cM, F⟩ := u
  dsimp only at hw hK hP hD
  replace hK : va_K (dC, dI) vwCl [(cA, .int), (cB, .int), (cM, .boolean)] s := hK
  replace hP : va_P (dC, dI) vwCl [(h0, .inr (0, [.ref h1, .ref h2, .int (nI 1024), .int (nI 1)])), (h1, .inl (cA, 512, .inl M)), (h2, .inl (cB, 512, .inl S)), (a0, .inr (1, [.int 0, .int (nI 1024), .ref a1])), (a1, .inl (cM, 16385, .inl F))] H := hP
  replace hD : va_D (fun q : Nat => s.heap.size ≤ q) [(h0, .inr (0, [.ref h1, .ref h2, .int (nI 1024), .int (nI 1)])), (h1, .inl (cA, 512, .inl M)), (h2, .inl (cB, 512, .inl S)), (a0, .inr (1, [.int 0, .int (nI 1024), .ref a1])), (a1, .inl (cM, 16385, .inl F))] := hD
  refine W.widen (k := 5) (n := 17416) (by decide) (by decide) ?_
  refine lv_astore_n (lv' := [(2, .ref a0), (1, .ref h0), (0, .ref b)]) hx hb d_L_law_15 rfl hl (by decide) rfl (fun ls hl => ?_)
  refine lv_iconst (v := nI 1) hx hb d_L_law_16 (by decide) ?_
  refine va_newa (atype := .long) (N' := 1) (a0 := (1, .inr (.inl (fun _ => 0)))) (ty := .long) (n := nI 1) hx hb (hts _ wac_long) rfl hK hP hD hS hA (fun _ => rfl) (by decide) (by decide) (by decide) (by decide) (by decide) d_L_law_17 (fun o0 cO H hK hP hD hS => ?_)
  replace hK : va_K (dC, dI) vwCl [(cA, .int), (cB, .int), (cM, .boolean), (cO, .long)] s := hK
  replace hP : va_P (dC, dI) vwCl [(h0, .inr (0, [.ref h1, .ref h2, .int (nI 1024), .int (nI 1)])), (h1, .inl (cA, 512, .inl M)), (h2, .inl (cB, 512, .inl S)), (a0, .inr (1, [.int 0, .int (nI 1024), .ref a1])), (a1, .inl (cM, 16385, .inl F)), (o0, .inl (cO, 1, .inr (.inl (fun _ => 0))))] H := hP
  replace hD : va_D (fun q : Nat => s.heap.size ≤ q) [(h0, .inr (0, [.ref h1, .ref h2, .int (nI 1024), .int (nI 1)])), (h1, .inl (cA, 512, .inl M)), (h2, .inl (cB, 512, .inl S)), (a0, .inr (1, [.int 0, .int (nI 1024), .ref a1])), (a1, .inl (cM, 16385, .inl F)), (o0, .inl (cO, 1, .inr (.inl (fun _ => 0))))] := hD
  refine lv_astore_n (lv' := [(3, .ref o0), (2, .ref a0), (1, .ref h0), (0, .ref b)]) hx hb d_L_law_19 rfl hl (by decide) rfl (fun ls hl => ?_)
  refine lv_iconst (v := nI 0) hx hb d_L_law_20 (by decide) ?_
  refine lv_istore (lv' := [(4, .int (nI 0)), (3, .ref o0), (2, .ref a0), (1, .ref h0), (0, .ref b)]) hx hb d_L_law_21 hl (by decide) rfl (fun ls hl => ?_)
  replace hP := hP.sub (ws' := [(h0, .inr (0, [.ref h1, .ref h2, .int (nI 1024), .int (nI 1)])), (h1, .inl (cA, 512, .inl M)), (h2, .inl (cB, 512, .inl S)), (o0, .inl (cO, 1, .inr (.inl (fun _ => 0)))), (a0, .inr (1, [.int 0, .int (nI 1024), .ref a1])), (a1, .inl (cM, 16385, .inl F))]) [0, 1, 2, 5, 3, 4] rfl
  replace hD := hD.sub (ws' := [(h0, .inr (0, [.ref h1, .ref h2, .int (nI 1024), .int (nI 1)])), (h1, .inl (cA, 512, .inl M)), (h2, .inl (cB, 512, .inl S)), (o0, .inl (cO, 1, .inr (.inl (fun _ => 0)))), (a0, .inr (1, [.int 0, .int (nI 1024), .ref a1])), (a1, .inl (cM, 16385, .inl F))]) [0, 1, 2, 5, 3, 4] (by decide) rfl
  have hF0 : MF F (fun j => decide (j = 0 ∨ j = 1024)) := hw
  have hR0 : zR 1024 (zm M) (fun j => decide (j = 0 ∨ j = 1024)) := ⟨fun j hj => by (rw [hM0 j (by omega)]; exact decide_eq_decide.mpr ⟨fun q => by omega, fun q => by omega⟩), rfl⟩
  exact law_loop l hlt hL C0 hK 513 0 1024 1 M S (fun _ => 0) 0 F (fun j => decide (j = 0 ∨ j = 1024)) (by omega) (by omega) g0 hF0 hR0 _ _ _ _ (by decide) (by decide) hP hD hS ls (lv_sub hl [4, 3, 2, 1, 0] rfl)
end
section
set_option maxHeartbeats 4000000 in
theorem lw_walk (l : Launch) (hlt : l.stackTraces = false) (b : Addr) (xs : List Int32) : MetFree l x (headSpec (Jvm.Cond.code x code maxLocals ret :: tables_1) room_1) (lw_P b xs) (fun _ _ _ _ _ => True) lw_Q := by
  refine MetFree.of_bodyS (code := code) (maxLocals := maxLocals) (ret := ret) (by decide) ?_ ?_
  · intro args s m h hn
    obtain ⟨meth, c, h1, h2, h3, h4, h5, h6, -, -⟩ := Cond.code_spec hn (atoms_spec (ws := Jvm.Cond.code x code maxLocals ret :: tables_1) h _ List.mem_cons_self)
    exact ⟨meth, c, h1, h2, h3, h4, h5, h6⟩
  · intro p e s m args below meth c s₁ B hml0 hP _
    obtain ⟨rfl, hx, hbd, hgv⟩ := hP
    obtain ⟨scr, harrAt, hlist, hof, hsmall⟩ := hx
    obtain ⟨hcb, hkn, -, -⟩ := State.arrayAt?_spec harrAt
    have hown : s.vm.findClass R_law = some m.cls := findClass_of_methodNamed B.named
    have hts0 : ∀ c ∈ (Jvm.Cond.code x code maxLocals ret :: tables_1), c.before #[Value.ref b] s = true := atoms_spec (ws := Jvm.Cond.code x code maxLocals ret :: tables_1) B.pre
    have hts : ∀ w ∈ lw_tbl, w.before #[Value.ref b] s = true := k2_hts_sels lw_privs (fun w hw => hts0 w (List.mem_cons_of_mem _ hw)) lw_privs_ok
    have hml : c.maxLocals = 7 := B.maxLocals_eq (hts0 _ List.mem_cons_self)
    have X₀ : Stand p l e room_1 s m #[Value.ref b] below meth c s₁ [] 0 0 := Stand.of_body B
    have hh0 : s₁.heap = s.heap := by rw [B.state]; rfl
    have hsz : scr.slots.size = xs.length := by rw [← Array.length_toList, hlist, List.length_map]
    have hval : ∀ j : Nat, j < xs.length → scr.slots[j]? = some (.int (xs.getD j 0)) := fun j hj => by
      rw [← Array.getElem?_toList, hlist]
      simp [hj]
    have hbl : b < s.heap.size := (Array.getElem?_eq_some_iff.mp hcb).1
    have hX : va_X b xs.length (fun j => xs.getD j 0) s s.heap := ⟨scr, hcb, hof, hkn, hsz, hval⟩
    have K : W p l e room_1 s m #[Value.ref b] below meth c s₁.heap [] 0 0 (lw_Z below #[Value.ref b] s) (entryFrame m ([Value.ref b] : List Value).toArray 7) := by
      rw [hh0]
      exact whole_start l hlt hbd ⟨B.exec, B.bytes, B.returns, hml, hown, hts, hX, hbl, B.notSynchronized, hgv⟩
    obtain ⟨t, a1, o, b1, b2, b3⟩ := K s₁ rfl X₀
    exact ⟨t, o, a1, b1, b2, b3⟩
theorem lw_pre_spec {args : Array Value} {s : State} (h : (Jvm.Cond.and given_1 narrow_1).before args s = true) (hr : rest_1_c.before args s = true) : ∃ (b : Addr) (xs : List Int32), lw_P b xs args s := by
  have hs := flat_of_before _ h
  have hq := flat_of_before _ hr
  have hc : (Cond.count 1).before args s = true := hs _ (by decide +kernel)
  have harr : (Cond.arrayOf (.arg 0) .int).before args s = true := hs _ (by decide +kernel)
  have hle : (Cond.le (.length (.arg 0)) (.int 1536)).before args s = true := hs _ (by decide +kernel)
  have hlen : (Cond.isInt (.length (.arg 0))).before args s = true := hq _ (by decide +kernel)
  have hall : (Cond.all (.arg 0) (.isInt (.elem (.arg 0) (.index 0)))).before args s = true := hq _ (by decide +kernel)
  obtain ⟨b, xs, hb, hx⟩ := State.ints_of_pre rfl harr hlen hall
  have hsm : xs.length < 2 ^ 31 := hx.choose_spec.2.2.2
  have hev : (Term.length (.arg 0)).eval args s none [] s = some (.int xs.length.toInt32) := hx.length_eval hb
  have hv := Cond.le_ints hev (show (Term.int 1536).eval args s none [] s = some (.int 1536) from rfl)
  have hd : xs.length.toInt32 ≤ 1536 := by
    simpa [Cond.before, Cond.holds, hv] using hle
  have hN : xs.length ≤ 1536 := (Int32.ofNat_le_ofNat hsm (by decide)).mp (show Int32.ofNat xs.length ≤ Int32.ofNat 1536 from hd)
  exact ⟨b, xs, Cond.one_arg hc (show args[0]? = some (.ref b) from hb), hx, hN, h⟩
theorem lw_comes (l : Launch) (hlt : l.stackTraces = false) : Comes l x (Jvm.Cond.code x code maxLocals ret :: tables_1) room_1 (fun tb e args s => Calls_1 tb e args s ∧ rest_1 tb e args s ∧ Pre_1 tb e args s)
    (fun _ _ args s o t => lw_Q args s o t) := by
  intro p e ha hc hk s m args below hf hfit hheap happ hpre
  obtain ⟨b, xs, hP⟩ := lw_pre_spec hpre.2.2 hpre.2.1
  obtain ⟨k, o, h1, h2, h3, hQ⟩ := lw_walk l hlt b xs p e ha hc hk s m args below hf ((Spec.applies_iff_loose hf).mp happ).1 hP trivial
  exact ⟨k, o, h1, h2, h3, hQ⟩
theorem lw_frame {s t : State} {o : Outcome} {args : Array Value} (h : Framed s o t [] 1035 25639) :
    Framed s o t (fieldLocs frame_1_writes args s ++ arrayLocs frame_1_arrays args s ++ staticLocs frame_1_statics s) 1035 25639 := h
theorem lw_limb (L : Cond) (hL : ∀ (args : Array Value) (s t : State), L.after args s (.returned (some (.int 1))) t = true) :
    ArmFor flags0 classFile x code maxLocals ret World_1 tables_1 room_1 Calls_1 rest_1 Pre_1
      (fun tb e a s o t => postC L tb e a s o t ∧ Framed s o t (fieldLocs frame_1_writes a s ++ arrayLocs frame_1_arrays a s ++ staticLocs frame_1_statics s) 1035 25639) := by
  intro l hfl _ _ p e ha hc hk s m args below hf hfit hheap happ hpre
  have hlt : l.stackTraces = false := by
    unfold Launch.stackTraces
    rw [hfl]
    decide +kernel
  obtain ⟨k, o, h1, h2, h3, rfl, hF⟩ := lw_comes l hlt p e ha hc hk s m args below hf hfit hheap happ hpre
  exact ⟨k, _, h1, h2, h3, hL args s _, lw_frame hF⟩
theorem i_vc : Claimed_1_1 ∧ Claimed_1_2 := ⟨lw_limb limb_1_1 (fun args s t => by simp [limb_1_1, Cond.after, Cond.holds, Cond.value]), lw_limb limb_1_2 (fun args s t => Cond.after_iff.mpr (by
  first | (rw [show limb_1_2 = Cond.eq .result (.int 1) from rfl, Cond.eq_ints (x := 1) (y := 1) rfl rfl]; simp; done) | (simp [limb_1_2, Cond.value, Term.eval]; done)))⟩
end
