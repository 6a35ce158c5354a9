/-! ===== Int32 by its bits: bt x i ===== -/
def bt (x : Int32) (i : Nat) : Bool := x.toBitVec.getLsbD i
theorem b_ext {x y : Int32} (h : ∀ i, i < 32 → bt x i = bt y i) : x = y := Int32.toBitVec_inj.mp (BitVec.eq_of_getLsbD_eq (fun i hi => h i hi))
theorem b_or (x y : Int32) (i : Nat) : bt (x ||| y) i = (bt x i || bt y i) := by unfold bt; rw [Int32.toBitVec_or, BitVec.getLsbD_or]
theorem b_and (x y : Int32) (i : Nat) : bt (x &&& y) i = (bt x i && bt y i) := by unfold bt; rw [Int32.toBitVec_and, BitVec.getLsbD_and]
theorem b_xor (x y : Int32) (i : Nat) : bt (x ^^^ y) i = (bt x i ^^ bt y i) := by unfold bt; rw [Int32.toBitVec_xor, BitVec.getLsbD_xor]
theorem b_big {x : Int32} {i : Nat} (h : 32 ≤ i) : bt x i = false := BitVec.getLsbD_of_ge _ _ h
theorem b_255 (i : Nat) : bt 255 i = decide (i < 8) := by
  rcases Nat.lt_or_ge i 32 with h | h
  · exact (by decide +kernel : ∀ i, i < 32 → bt 255 i = decide (i < 8)) i h
  · rw [b_big h, decide_eq_false (by omega)]
theorem b_65535 (i : Nat) : bt 65535 i = decide (i < 16) := by
  rcases Nat.lt_or_ge i 32 with h | h
  · exact (by decide +kernel : ∀ i, i < 32 → bt 65535 i = decide (i < 16)) i h
  · rw [b_big h, decide_eq_false (by omega)]
theorem b_m1 : ∀ i, i < 32 → bt (-1) i = true := by decide +kernel
theorem b_0 (i : Nat) : bt 0 i = false := BitVec.getLsbD_zero
theorem s_l : ∀ n, n < 32 → ((nI n &&& 31).toBitVec.smod 32).toNat = n := by decide +kernel
theorem s_u : ∀ n, n < 32 → (((nI n).toUInt32 &&& Int32.toUInt32 31).toBitVec % 32).toNat = n := by decide +kernel
theorem b_shl (n : Nat) (hn : n < 32) (x : Int32) {i : Nat} (hi : i < 32) : bt (x <<< (nI n &&& 31)) i = (decide (n ≤ i) && bt x (i - n)) := by
  unfold bt
  rw [Int32.toBitVec_shiftLeft]
  show (x.toBitVec <<< ((nI n &&& 31).toBitVec.smod 32).toNat).getLsbD i = _
  rw [s_l n hn, BitVec.getLsbD_shiftLeft]
  rcases Nat.lt_or_ge i n with h | h
  · simp [h, Nat.not_le.mpr h]
  · simp [hi, h, Nat.not_lt.mpr h]
theorem b_ushr (n : Nat) (hn : n < 32) (x : Int32) (i : Nat) : bt ((x.toUInt32 >>> ((nI n).toUInt32 &&& Int32.toUInt32 31)).toInt32) i = bt x (n + i) := by
  show (x.toUInt32 >>> ((nI n).toUInt32 &&& Int32.toUInt32 31)).toBitVec.getLsbD i = x.toUInt32.toBitVec.getLsbD (n + i)
  rw [UInt32.toBitVec_shiftRight]
  show (x.toUInt32.toBitVec >>> (((nI n).toUInt32 &&& Int32.toUInt32 31).toBitVec % 32).toNat).getLsbD i = _
  rw [s_u n hn, BitVec.getLsbD_ushiftRight]
theorem b_sshr (n : Nat) (hn : n < 32) (x : Int32) {i : Nat} (hi : i < 32) : bt (x >>> (nI n &&& 31)) i = if n + i < 32 then bt x (n + i) else bt x 31 := by
  unfold bt
  rw [Int32.toBitVec_shiftRight]
  show (x.toBitVec.sshiftRight ((nI n &&& 31).toBitVec.smod 32).toNat).getLsbD i = _
  rw [s_l n hn, BitVec.getLsbD_sshiftRight, BitVec.msb_eq_getLsbD_last]
  simp [hi]
theorem b_shl8 (x : Int32) {i : Nat} (hi : i < 32) : bt (x <<< ((8 : Int32) &&& 31)) i = (decide (8 ≤ i) && bt x (i - 8)) := b_shl 8 (by omega) x hi
theorem b_shl16 (x : Int32) {i : Nat} (hi : i < 32) : bt (x <<< ((16 : Int32) &&& 31)) i = (decide (16 ≤ i) && bt x (i - 16)) := b_shl 16 (by omega) x hi
theorem b_shl24 (x : Int32) {i : Nat} (hi : i < 32) : bt (x <<< ((24 : Int32) &&& 31)) i = (decide (24 ≤ i) && bt x (i - 24)) := b_shl 24 (by omega) x hi
theorem b_sshr8 (x : Int32) {i : Nat} (hi : i < 32) : bt (x >>> ((8 : Int32) &&& 31)) i = if 8 + i < 32 then bt x (8 + i) else bt x 31 := b_sshr 8 (by omega) x hi
/-! MARKS: bit i of M c is set where a piece begins at cell 32 * c + i -/
def zu (x y : Int32) : Int32 := (x.toUInt32 >>> (y.toUInt32 &&& Int32.toUInt32 31)).toInt32
def zm (M : Nat → Int32) (j : Nat) : Bool := bt (M (j / 32)) (j % 32)
theorem zm_one : ∀ i, i < 32 → ∀ k, k < 32 → bt ((1 : Int32) <<< (nI i &&& 31)) k = decide (k = i) := by decide +kernel
theorem zm_oneX : ∀ i, i < 32 → ∀ k, k < 32 → bt (((1 : Int32) <<< (nI i &&& 31)) ^^^ (-1)) k = !decide (k = i) := by decide +kernel
theorem zm_hi : ∀ r, r < 32 → ∀ k, k < 32 → bt ((-1 : Int32) <<< (nI r &&& 31)) k = decide (r ≤ k) := by decide +kernel
theorem zm_lo : ∀ r, r < 32 → ∀ k, k < 32 → bt (zu (-1) (nI (31 - r))) k = decide (k ≤ r) := by decide +kernel
theorem zm_at (M : Nat → Int32) {c i : Nat} (hi : i < 32) : zm M (32 * c + i) = bt (M c) i := by
  unfold zm
  rw [show (32 * c + i) / 32 = c by omega, show (32 * c + i) % 32 = i by omega]
theorem zm_set {M : Nat → Int32} {c i : Nat} (hi : i < 32) (j : Nat) : zm (upd M c (M c ||| ((1 : Int32) <<< (nI i &&& 31)))) j = (zm M j || decide (j = 32 * c + i)) := by
  unfold zm
  by_cases h : j / 32 = c
  · rw [h, pk_us, b_or, zm_one i hi _ (Nat.mod_lt _ (by decide))]
    rw [show decide (j % 32 = i) = decide (j = 32 * c + i) from decide_eq_decide.mpr ⟨fun q => by omega, fun q => by omega⟩]
  · rw [pk_un h, show decide (j = 32 * c + i) = false from decide_eq_false (fun q => h (by omega)), Bool.or_false]
theorem zm_clr {M : Nat → Int32} {c i : Nat} (hi : i < 32) (j : Nat) : zm (upd M c (M c &&& (((1 : Int32) <<< (nI i &&& 31)) ^^^ (-1)))) j = (zm M j && !decide (j = 32 * c + i)) := by
  unfold zm
  by_cases h : j / 32 = c
  · rw [h, pk_us, b_and, zm_oneX i hi _ (Nat.mod_lt _ (by decide))]
    rw [show decide (j % 32 = i) = decide (j = 32 * c + i) from decide_eq_decide.mpr ⟨fun q => by omega, fun q => by omega⟩]
  · rw [pk_un h, show decide (j = 32 * c + i) = false from decide_eq_false (fun q => h (by omega)), Bool.not_false, Bool.and_true]
theorem z_some {x : Int32} (h : ¬ x = 0) : ∃ k, k < 32 ∧ bt x k = true := by
  refine Classical.byContradiction fun hn => h (b_ext fun i hi => ?_)
  rw [b_0]
  cases hb : bt x i
  · rfl
  · exact absurd ⟨i, hi, hb⟩ hn
theorem z_low {x : Int32} (h : ¬ x = 0) : ∃ t, t < 32 ∧ bt x t = true ∧ ∀ k, k < t → bt x k = false := by
  obtain ⟨k, ⟨hk, hb⟩, hmin⟩ := pk_least (fun k => k < 32 ∧ bt x k = true) (z_some h)
  refine ⟨k, hk, hb, fun j hj => ?_⟩
  cases hb2 : bt x j
  · rfl
  · exact absurd ⟨by omega, hb2⟩ (hmin j hj)
theorem z_top {x : Int32} (h : ¬ x = 0) : ∃ t, t < 32 ∧ bt x t = true ∧ ∀ k, t < k → k < 32 → bt x k = false := by
  obtain ⟨k0, hk0, hb0⟩ := z_some h
  obtain ⟨k, ⟨hk, hb⟩, hmin⟩ := pk_least (fun k => k < 32 ∧ bt x (31 - k) = true) ⟨31 - k0, by omega, by rw [show 31 - (31 - k0) = k0 by omega]; exact hb0⟩
  refine ⟨31 - k, by omega, hb, fun j hj hj2 => ?_⟩
  cases hb2 : bt x j
  · rfl
  · exact absurd ⟨by omega, by rw [show 31 - (31 - j) = j by omega]; exact hb2⟩ (hmin (31 - j) (by omega))
/-- an Int32 by its number -/
theorem z_num (x : Int32) : x = nI x.toBitVec.toNat := by
  apply Int32.toBitVec_inj.1
  show x.toBitVec = BitVec.ofNat 32 x.toBitVec.toNat
  simp
theorem z_tb (x : Int32) (k : Nat) : bt x k = x.toBitVec.toNat.testBit k := rfl
theorem z_ge {x : Int32} {t : Nat} (h : bt x t = true) : 2 ^ t ≤ x.toBitVec.toNat := Nat.ge_two_pow_of_testBit (by rw [← z_tb]; exact h)
theorem z_lt {x : Int32} {t : Nat} (h : ∀ k, t < k → k < 32 → bt x k = false) : x.toBitVec.toNat < 2 ^ (t + 1) := by
  refine Nat.lt_pow_two_of_testBit _ (fun i hi => ?_)
  rw [← z_tb]
  rcases Nat.lt_or_ge i 32 with q | q
  · exact h i (by omega) q
  · exact b_big q
/-- the low mask of a number whose lowest set bit is t -/
theorem z_mask {x : Int32} {t : Nat} (ht : t < 32) (h1 : bt x t = true) (h2 : ∀ k, k < t → bt x k = false) : (x ^^^ (-1)) &&& (x - 1) = nI (2 ^ t - 1) := by
  have hp := Nat.two_pow_pos t
  have hv : x.toBitVec.toNat % 2 ^ t = 0 := by
    apply Nat.eq_of_testBit_eq
    intro j
    rw [Nat.testBit_mod_two_pow, Nat.zero_testBit]
    by_cases a : j < t
    · rw [← z_tb, h2 j a, Bool.and_false]
    · rw [decide_eq_false a, Bool.false_and]
  have ho : x.toBitVec.toNat / 2 ^ t % 2 = 1 := by
    have := h1
    rw [z_tb, Nat.testBit_eq_decide_div_mod_eq] at this
    exact of_decide_eq_true this
  obtain ⟨q, hq⟩ : ∃ q, x.toBitVec.toNat / 2 ^ t = 2 * q + 1 := ⟨x.toBitVec.toNat / 2 ^ t / 2, by omega⟩
  have e1 : x.toBitVec.toNat = 2 ^ t * (2 * q + 1) + 0 := by
    have := Nat.div_add_mod x.toBitVec.toNat (2 ^ t)
    rw [hv, hq] at this
    exact this.symm
  have hlt := x.toBitVec.isLt
  have e3 : (x - 1).toBitVec.toNat = x.toBitVec.toNat - 1 := by
    have h0 : 1 ≤ x.toBitVec.toNat := by
      have := z_ge h1
      omega
    show (x.toBitVec - 1#32).toNat = _
    rw [BitVec.toNat_sub]
    show (2 ^ 32 - 1 + x.toBitVec.toNat) % 2 ^ 32 = _
    omega
  have e2 : x.toBitVec.toNat - 1 = 2 ^ t * (2 * q) + (2 ^ t - 1) := by
    rw [e1, Nat.mul_add]
    omega
  refine b_ext fun j hj => ?_
  rw [b_and, b_xor, b_m1 j hj, z_tb (x - 1), e3, e2, Nat.testBit_two_pow_mul_add _ (by omega), z_tb x, e1, Nat.testBit_two_pow_mul_add _ hp]
  have hr : bt (nI (2 ^ t - 1)) j = decide (j < t) := by
    have hs : 2 ^ t ≤ 2 ^ 31 := Nat.pow_le_pow_right (by decide) (by omega)
    rw [z_tb, pk_tn (by omega), Nat.testBit_two_pow_sub_one]
  rw [hr]
  by_cases a : j < t
  · simp [a]
  · rw [if_neg a, if_neg a, decide_eq_false a]
    cases hd : j - t with
    | zero => simp
    | succ d =>
      rw [Nat.testBit_succ, Nat.testBit_succ, show (2 * q + 1) / 2 = q by omega, show 2 * q / 2 = q by omega]
      cases q.testBit d <;> rfl
theorem z_p1 (t : Nat) : 1 ≤ 2 ^ t := Nat.two_pow_pos t
theorem z_lt31 {t v : Nat} (ht : t < 31) (h : v < 2 ^ (t + 1)) : v < 2147483648 := by
  have h1 : 2 ^ (t + 1) ≤ 2 ^ 31 := Nat.pow_le_pow_right (by decide) (by omega)
  have h2 : (2 : Nat) ^ 31 = 2147483648 := by decide
  omega
theorem z_lgu {a b v : Nat} (h1 : 2 ^ a ≤ v) (h2 : v < 2 ^ (a + 1)) (h3 : 2 ^ b ≤ v) (h4 : v < 2 ^ (b + 1)) : a = b := by
  have x1 : a < b + 1 := (Nat.pow_lt_pow_iff_right (a := 2) (by decide)).mp (Nat.lt_of_le_of_lt h1 h4)
  have x2 : b < a + 1 := (Nat.pow_lt_pow_iff_right (a := 2) (by decide)).mp (Nat.lt_of_le_of_lt h3 h2)
  omega
theorem z_leaf {t v s q : Nat} (hq : q = 2 ^ s) (h1 : 2 ^ t ≤ v) (h2 : v < 2 ^ (t + 1)) (h3 : q ≤ v) (h4 : v < q * 4) : t = s + v / q / 2 := by
  have e1 : 2 ^ (s + 1) = q * 2 := by rw [Nat.pow_succ, ← hq]
  have e2 : 2 ^ (s + 1 + 1) = q * 4 := by rw [Nat.pow_succ, e1]; omega
  have hp : 0 < q := by rw [hq]; exact Nat.two_pow_pos s
  rcases Nat.lt_or_ge v (q * 2) with z | z
  · have e3 : v / q = 1 := by
      apply Nat.div_eq_of_lt_le <;> omega
    rw [e3, z_lgu h1 h2 (b := s) (by omega) (by omega)]
    omega
  · have e3 : v / q = 2 ∨ v / q = 3 := by
      have a1 : 2 ≤ v / q := (Nat.le_div_iff_mul_le hp).mpr (by omega)
      have a2 : v / q < 4 := (Nat.div_lt_iff_lt_mul hp).mpr (by omega)
      omega
    have e4 := z_lgu h1 h2 (b := s + 1) (by omega) (by omega)
    rcases e3 with e3 | e3 <;> (rw [e3]; omega)
theorem z_leaf2 {t v s q : Nat} (hq : q = 2 ^ s) (h : v = 2 ^ t - 1) (h1 : q ≤ v) (h2 : v / q ≤ 4) : t = s + 1 + v / q / 2 := by
  have hp : 0 < q := by rw [hq]; exact Nat.two_pow_pos s
  have ht := Nat.two_pow_pos t
  have hst : s < t := (Nat.pow_lt_pow_iff_right (a := 2) (by decide)).mp (by omega)
  obtain ⟨d, rfl⟩ : ∃ d, t = s + 1 + d := ⟨t - (s + 1), by omega⟩
  have e0 : 2 ^ (s + 1 + d) = q * (2 * 2 ^ d) := by
    rw [hq, Nat.pow_add, Nat.pow_succ, Nat.mul_assoc]
  have hd := Nat.two_pow_pos d
  have e1 : v / q = 2 * 2 ^ d - 1 := by
    apply Nat.div_eq_of_lt_le
    · rw [h, e0, Nat.mul_comm, Nat.mul_sub, Nat.mul_one]; omega
    · rw [h, e0, show 2 * 2 ^ d - 1 + 1 = 2 * 2 ^ d by omega, Nat.mul_comm]
      have : 0 < 2 * 2 ^ d * q := Nat.mul_pos (by omega) hp
      omega
  match d, e1 with
  | 0, e1 => rw [e1]
  | 1, e1 => rw [e1]
  | d + 2, e1 =>
    exfalso
    have : 4 ≤ 2 ^ (d + 2) := by
      have := Nat.pow_le_pow_right (n := 2) (by decide) (show 2 ≤ d + 2 by omega)
      exact this
    omega
theorem z_lt32 {t v : Nat} (ht : t < 32) (h : v = 2 ^ t - 1) : v < 2147483648 := by
  have h1 : 2 ^ t ≤ 2 ^ 31 := Nat.pow_le_pow_right (by decide) (by omega)
  have h2 : (2 : Nat) ^ 31 = 2147483648 := by decide
  have h3 := Nat.two_pow_pos t
  omega
theorem z_t0 {t v : Nat} (h : v = 2 ^ t - 1) (hv : v = 0) : t = 0 := by
  rcases Nat.eq_zero_or_pos t with q | q
  · exact q
  · have := Nat.pow_le_pow_right (n := 2) (by decide) (show 1 ≤ t by omega)
    omega
