section
/-! PURE: a row of cells with begins B : Nat → Bool. zb: where the piece over a cell begins; zn: the first begin from k on, or n; zc: how many begins ahead of n -/
def zb (B : Nat → Bool) : Nat → Nat
  | 0 => 0
  | c + 1 => if B (c + 1) = true then c + 1 else zb B c
def znf (B : Nat → Bool) : Nat → Nat → Nat
  | 0, k => k
  | f + 1, k => if B k = true then k else znf B f (k + 1)
def zn (B : Nat → Bool) (n k : Nat) : Nat := znf B (n - k) k
def zc (B : Nat → Bool) : Nat → Nat
  | 0 => 0
  | n + 1 => zc B n + (if B n = true then 1 else 0)
theorem zb_s (B : Nat → Bool) (c : Nat) : zb B (c + 1) = if B (c + 1) = true then c + 1 else zb B c := rfl
theorem znf_s (B : Nat → Bool) (f k : Nat) : znf B (f + 1) k = if B k = true then k else znf B f (k + 1) := rfl
theorem zc_s (B : Nat → Bool) (n : Nat) : zc B (n + 1) = zc B n + (if B n = true then 1 else 0) := rfl
theorem zb_le (B : Nat → Bool) (c : Nat) : zb B c ≤ c := by
  induction c with
  | zero => exact Nat.le_refl 0
  | succ c ih =>
    rw [zb_s]
    by_cases h : B (c + 1) = true
    · rw [if_pos h]; exact Nat.le_refl _
    · rw [if_neg h]; omega
theorem zb_on {B : Nat → Bool} (h0 : B 0 = true) (c : Nat) : B (zb B c) = true := by
  induction c with
  | zero => exact h0
  | succ c ih =>
    rw [zb_s]
    by_cases h : B (c + 1) = true
    · rw [if_pos h]; exact h
    · rw [if_neg h]; exact ih
theorem zb_off {B : Nat → Bool} (c : Nat) : ∀ j, zb B c < j → j ≤ c → B j = false := by
  induction c with
  | zero => intro j h1 h2; simp only [zb] at h1; omega
  | succ c ih =>
    intro j h1 h2
    rw [zb_s] at h1
    by_cases h : B (c + 1) = true
    · rw [if_pos h] at h1; omega
    · rw [if_neg h] at h1
      rcases Nat.lt_or_ge c j with q | q
      · have e : j = c + 1 := by omega
        subst e
        cases hb : B (c + 1)
        · rfl
        · exact absurd hb h
      · exact ih j h1 q
theorem zb_uniq {B : Nat → Bool} {b : Nat} : ∀ {c : Nat}, b ≤ c → (b = 0 ∨ B b = true) → (∀ j, b < j → j ≤ c → B j = false) → zb B c = b := by
  intro c
  induction c with
  | zero => intro h1 _ _; simp only [zb]; omega
  | succ c ih =>
    intro h1 h2 h3
    rw [zb_s]
    by_cases h : B (c + 1) = true
    · rw [if_pos h]
      rcases Nat.lt_or_ge b (c + 1) with q | q
      · rw [h3 (c + 1) q (Nat.le_refl _)] at h; cases h
      · omega
    · rw [if_neg h]
      rcases Nat.lt_or_ge b (c + 1) with q | q
      · exact ih (by omega) h2 (fun j a b => h3 j a (by omega))
      · have e : b = c + 1 := by omega
        rcases h2 with h2 | h2
        · omega
        · rw [e] at h2; exact absurd h2 h
theorem znf_ge (B : Nat → Bool) : ∀ f k, k ≤ znf B f k := by
  intro f
  induction f with
  | zero => intro k; exact Nat.le_refl _
  | succ f ih =>
    intro k
    rw [znf_s]
    by_cases h : B k = true
    · rw [if_pos h]; exact Nat.le_refl _
    · rw [if_neg h]; have := ih (k + 1); omega
theorem znf_le (B : Nat → Bool) : ∀ f k, znf B f k ≤ k + f := by
  intro f
  induction f with
  | zero => intro k; exact Nat.le_refl _
  | succ f ih =>
    intro k
    rw [znf_s]
    by_cases h : B k = true
    · rw [if_pos h]; omega
    · rw [if_neg h]; have := ih (k + 1); omega
theorem znf_on (B : Nat → Bool) : ∀ f k, znf B f k < k + f → B (znf B f k) = true := by
  intro f
  induction f with
  | zero => intro k h; simp only [znf] at h; omega
  | succ f ih =>
    intro k h
    rw [znf_s] at h ⊢
    by_cases hb : B k = true
    · rw [if_pos hb]; exact hb
    · rw [if_neg hb] at h ⊢
      exact ih (k + 1) (by omega)
theorem znf_off (B : Nat → Bool) : ∀ f k j, k ≤ j → j < znf B f k → B j = false := by
  intro f
  induction f with
  | zero => intro k j h1 h2; simp only [znf] at h2; omega
  | succ f ih =>
    intro k j h1 h2
    rw [znf_s] at h2
    by_cases hb : B k = true
    · rw [if_pos hb] at h2; omega
    · rw [if_neg hb] at h2
      rcases Nat.lt_or_ge k j with q | q
      · exact ih (k + 1) j q h2
      · have e : j = k := by omega
        subst e
        cases h : B j
        · rfl
        · exact absurd h hb
theorem zn_ge (B : Nat → Bool) (n k : Nat) : k ≤ zn B n k := znf_ge B _ k
theorem zn_le {B : Nat → Bool} {n k : Nat} (h : k ≤ n) : zn B n k ≤ n := by
  have := znf_le B (n - k) k
  unfold zn
  omega
theorem zn_on {B : Nat → Bool} {n k : Nat} (h : zn B n k < n) : B (zn B n k) = true := by
  have h1 := zn_ge B n k
  exact znf_on B (n - k) k (by unfold zn at h h1; omega)
theorem zn_off {B : Nat → Bool} {n k : Nat} : ∀ j, k ≤ j → j < zn B n k → B j = false := fun j => znf_off B (n - k) k j
theorem zn_uniq {B : Nat → Bool} {n k e : Nat} (h1 : k ≤ e) (h2 : e ≤ n) (h3 : e = n ∨ B e = true) (h4 : ∀ j, k ≤ j → j < e → B j = false) : zn B n k = e := by
  have a1 := zn_ge B n k
  have a2 : zn B n k ≤ n := zn_le (by omega)
  rcases Nat.lt_trichotomy (zn B n k) e with q | q | q
  · have := zn_on (B := B) (n := n) (k := k) (by omega)
    rw [h4 _ a1 q] at this
    cases this
  · exact q
  · have := zn_off (B := B) (n := n) (k := k) e h1 q
    rcases h3 with h3 | h3
    · omega
    · rw [this] at h3; cases h3
theorem zn_congr {B C : Nat → Bool} {n k : Nat} (hk : k ≤ n) (h : ∀ j, k ≤ j → j < n → B j = C j) : zn B n k = zn C n k := by
  refine zn_uniq (zn_ge C n k) (zn_le hk) ?_ ?_
  · rcases Nat.lt_or_ge (zn C n k) n with q | q
    · exact Or.inr (by rw [h _ (zn_ge C n k) q]; exact zn_on q)
    · have := zn_le (B := C) hk
      exact Or.inl (by omega)
  · intro j a b
    have := zn_le (B := C) hk
    rw [h j a (by omega)]
    exact zn_off j a b
theorem zb_congr {B C : Nat → Bool} {c : Nat} (h : ∀ j, j ≤ c → B j = C j) : zb B c = zb C c := by
  induction c with
  | zero => rfl
  | succ c ih =>
    rw [zb_s, zb_s, h (c + 1) (Nat.le_refl _), ih (fun j hj => h j (by omega))]
theorem zc_congr {B C : Nat → Bool} {n : Nat} (h : ∀ j, j < n → B j = C j) : zc B n = zc C n := by
  induction n with
  | zero => rfl
  | succ n ih =>
    rw [zc_s, zc_s, h n (Nat.lt_succ_self n), ih (fun j hj => h j (by omega))]
theorem zc_le (B : Nat → Bool) (n : Nat) : zc B n ≤ n := by
  induction n with
  | zero => exact Nat.le_refl _
  | succ n ih =>
    rw [zc_s]
    by_cases h : B n = true
    · rw [if_pos h]; omega
    · rw [if_neg h]; omega
theorem zc_mono (B : Nat → Bool) {a b : Nat} (h : a ≤ b) : zc B a ≤ zc B b := by
  induction b with
  | zero => have e : a = 0 := by omega
            rw [e]; exact Nat.le_refl _
  | succ b ih =>
    rcases Nat.lt_or_ge b a with q | q
    · have e : a = b + 1 := by omega
      rw [e]; exact Nat.le_refl _
    · have := ih q
      rw [zc_s]
      omega
theorem zc_pos {B : Nat → Bool} {c n : Nat} (hc : c < n) (h : B c = true) : 1 ≤ zc B n := by
  have h1 := zc_mono B (show c + 1 ≤ n by omega)
  have h2 : zc B (c + 1) = zc B c + 1 := by
    show zc B c + (if B c = true then 1 else 0) = _
    rw [if_pos h]
  omega
/-- one begin more -/
theorem zc_set {B C : Nat → Bool} {c n : Nat} (hc : c < n) (hB : B c = false) (hC : C c = true) (h : ∀ j, j < n → j ≠ c → C j = B j) : zc C n = zc B n + 1 := by
  induction n with
  | zero => omega
  | succ n ih =>
    rw [zc_s, zc_s]
    by_cases e : c = n
    · subst e
      rw [if_pos hC, hB, zc_congr (B := C) (C := B) (fun j hj => h j (by omega) (by omega))]
      simp
    · rw [ih (by omega) (fun j hj hj2 => h j (by omega) hj2), h n (by omega) (fun q => e q.symm)]
      omega
end
section
/-! ===== Int32 by its bits: bt x i ===== -/
def bt (x : Int32) (i : Nat) : Bool := x.toBitVec.getLsbD i
theorem b_ext {x y : Int32} (h : ∀ i, i < 32 → bt x i = bt y i) : x = y := Int32.toBitVec_inj.mp (BitVec.eq_of_getLsbD_eq (fun i hi => h i hi))
theorem b_or (x y : Int32) (i : Nat) : bt (x ||| y) i = (bt x i || bt y i) := by unfold bt; rw [Int32.toBitVec_or, BitVec.getLsbD_or]
theorem b_and (x y : Int32) (i : Nat) : bt (x &&& y) i = (bt x i && bt y i) := by unfold bt; rw [Int32.toBitVec_and, BitVec.getLsbD_and]
theorem b_xor (x y : Int32) (i : Nat) : bt (x ^^^ y) i = (bt x i ^^ bt y i) := by unfold bt; rw [Int32.toBitVec_xor, BitVec.getLsbD_xor]
theorem b_big {x : Int32} {i : Nat} (h : 32 ≤ i) : bt x i = false := BitVec.getLsbD_of_ge _ _ h
theorem b_255 (i : Nat) : bt 255 i = decide (i < 8) := by
  rcases Nat.lt_or_ge i 32 with h | h
  · exact (by decide +kernel : ∀ i, i < 32 → bt 255 i = decide (i < 8)) i h
  · rw [b_big h, decide_eq_false (by omega)]
theorem b_65535 (i : Nat) : bt 65535 i = decide (i < 16) := by
  rcases Nat.lt_or_ge i 32 with h | h
  · exact (by decide +kernel : ∀ i, i < 32 → bt 65535 i = decide (i < 16)) i h
  · rw [b_big h, decide_eq_false (by omega)]
theorem b_m1 : ∀ i, i < 32 → bt (-1) i = true := by decide +kernel
theorem b_0 (i : Nat) : bt 0 i = false := BitVec.getLsbD_zero
theorem s_l : ∀ n, n < 32 → ((nI n &&& 31).toBitVec.smod 32).toNat = n := by decide +kernel
theorem s_u : ∀ n, n < 32 → (((nI n).toUInt32 &&& Int32.toUInt32 31).toBitVec % 32).toNat = n := by decide +kernel
theorem b_shl (n : Nat) (hn : n < 32) (x : Int32) {i : Nat} (hi : i < 32) : bt (x <<< (nI n &&& 31)) i = (decide (n ≤ i) && bt x (i - n)) := by
  unfold bt
  rw [Int32.toBitVec_shiftLeft]
  show (x.toBitVec <<< ((nI n &&& 31).toBitVec.smod 32).toNat).getLsbD i = _
  rw [s_l n hn, BitVec.getLsbD_shiftLeft]
  rcases Nat.lt_or_ge i n with h | h
  · simp [h, Nat.not_le.mpr h]
  · simp [hi, h, Nat.not_lt.mpr h]
theorem b_ushr (n : Nat) (hn : n < 32) (x : Int32) (i : Nat) : bt ((x.toUInt32 >>> ((nI n).toUInt32 &&& Int32.toUInt32 31)).toInt32) i = bt x (n + i) := by
  show (x.toUInt32 >>> ((nI n).toUInt32 &&& Int32.toUInt32 31)).toBitVec.getLsbD i = x.toUInt32.toBitVec.getLsbD (n + i)
  rw [UInt32.toBitVec_shiftRight]
  show (x.toUInt32.toBitVec >>> (((nI n).toUInt32 &&& Int32.toUInt32 31).toBitVec % 32).toNat).getLsbD i = _
  rw [s_u n hn, BitVec.getLsbD_ushiftRight]
theorem b_sshr (n : Nat) (hn : n < 32) (x : Int32) {i : Nat} (hi : i < 32) : bt (x >>> (nI n &&& 31)) i = if n + i < 32 then bt x (n + i) else bt x 31 := by
  unfold bt
  rw [Int32.toBitVec_shiftRight]
  show (x.toBitVec.sshiftRight ((nI n &&& 31).toBitVec.smod 32).toNat).getLsbD i = _
  rw [s_l n hn, BitVec.getLsbD_sshiftRight, BitVec.msb_eq_getLsbD_last]
  simp [hi]
theorem b_shl8 (x : Int32) {i : Nat} (hi : i < 32) : bt (x <<< ((8 : Int32) &&& 31)) i = (decide (8 ≤ i) && bt x (i - 8)) := b_shl 8 (by omega) x hi
theorem b_shl16 (x : Int32) {i : Nat} (hi : i < 32) : bt (x <<< ((16 : Int32) &&& 31)) i = (decide (16 ≤ i) && bt x (i - 16)) := b_shl 16 (by omega) x hi
theorem b_shl24 (x : Int32) {i : Nat} (hi : i < 32) : bt (x <<< ((24 : Int32) &&& 31)) i = (decide (24 ≤ i) && bt x (i - 24)) := b_shl 24 (by omega) x hi
theorem b_sshr8 (x : Int32) {i : Nat} (hi : i < 32) : bt (x >>> ((8 : Int32) &&& 31)) i = if 8 + i < 32 then bt x (8 + i) else bt x 31 := b_sshr 8 (by omega) x hi
/-! MARKS: bit i of M c is set where a piece begins at cell 32 * c + i -/
def zu (x y : Int32) : Int32 := (x.toUInt32 >>> (y.toUInt32 &&& Int32.toUInt32 31)).toInt32
def zm (M : Nat → Int32) (j : Nat) : Bool := bt (M (j / 32)) (j % 32)
theorem zm_one : ∀ i, i < 32 → ∀ k, k < 32 → bt ((1 : Int32) <<< (nI i &&& 31)) k = decide (k = i) := by decide +kernel
theorem zm_oneX : ∀ i, i < 32 → ∀ k, k < 32 → bt (((1 : Int32) <<< (nI i &&& 31)) ^^^ (-1)) k = !decide (k = i) := by decide +kernel
theorem zm_hi : ∀ r, r < 32 → ∀ k, k < 32 → bt ((-1 : Int32) <<< (nI r &&& 31)) k = decide (r ≤ k) := by decide +kernel
theorem zm_lo : ∀ r, r < 32 → ∀ k, k < 32 → bt (zu (-1) (nI (31 - r))) k = decide (k ≤ r) := by decide +kernel
theorem zm_at (M : Nat → Int32) {c i : Nat} (hi : i < 32) : zm M (32 * c + i) = bt (M c) i := by
  unfold zm
  rw [show (32 * c + i) / 32 = c by omega, show (32 * c + i) % 32 = i by omega]
theorem zm_set {M : Nat → Int32} {c i : Nat} (hi : i < 32) (j : Nat) : zm (upd M c (M c ||| ((1 : Int32) <<< (nI i &&& 31)))) j = (zm M j || decide (j = 32 * c + i)) := by
  unfold zm
  by_cases h : j / 32 = c
  · rw [h, pk_us, b_or, zm_one i hi _ (Nat.mod_lt _ (by decide))]
    rw [show decide (j % 32 = i) = decide (j = 32 * c + i) from decide_eq_decide.mpr ⟨fun q => by omega, fun q => by omega⟩]
  · rw [pk_un h, show decide (j = 32 * c + i) = false from decide_eq_false (fun q => h (by omega)), Bool.or_false]
theorem zm_clr {M : Nat → Int32} {c i : Nat} (hi : i < 32) (j : Nat) : zm (upd M c (M c &&& (((1 : Int32) <<< (nI i &&& 31)) ^^^ (-1)))) j = (zm M j && !decide (j = 32 * c + i)) := by
  unfold zm
  by_cases h : j / 32 = c
  · rw [h, pk_us, b_and, zm_oneX i hi _ (Nat.mod_lt _ (by decide))]
    rw [show decide (j % 32 = i) = decide (j = 32 * c + i) from decide_eq_decide.mpr ⟨fun q => by omega, fun q => by omega⟩]
  · rw [pk_un h, show decide (j = 32 * c + i) = false from decide_eq_false (fun q => h (by omega)), Bool.not_false, Bool.and_true]
theorem z_some {x : Int32} (h : ¬ x = 0) : ∃ k, k < 32 ∧ bt x k = true := by
  refine Classical.byContradiction fun hn => h (b_ext fun i hi => ?_)
  rw [b_0]
  cases hb : bt x i
  · rfl
  · exact absurd ⟨i, hi, hb⟩ hn
theorem z_low {x : Int32} (h : ¬ x = 0) : ∃ t, t < 32 ∧ bt x t = true ∧ ∀ k, k < t → bt x k = false := by
  obtain ⟨k, ⟨hk, hb⟩, hmin⟩ := pk_least (fun k => k < 32 ∧ bt x k = true) (z_some h)
  refine ⟨k, hk, hb, fun j hj => ?_⟩
  cases hb2 : bt x j
  · rfl
  · exact absurd ⟨by omega, hb2⟩ (hmin j hj)
theorem z_top {x : Int32} (h : ¬ x = 0) : ∃ t, t < 32 ∧ bt x t = true ∧ ∀ k, t < k → k < 32 → bt x k = false := by
  obtain ⟨k0, hk0, hb0⟩ := z_some h
  obtain ⟨k, ⟨hk, hb⟩, hmin⟩ := pk_least (fun k => k < 32 ∧ bt x (31 - k) = true) ⟨31 - k0, by omega, by rw [show 31 - (31 - k0) = k0 by omega]; exact hb0⟩
  refine ⟨31 - k, by omega, hb, fun j hj hj2 => ?_⟩
  cases hb2 : bt x j
  · rfl
  · exact absurd ⟨by omega, by rw [show 31 - (31 - j) = j by omega]; exact hb2⟩ (hmin (31 - j) (by omega))
/-- an Int32 by its number -/
theorem z_num (x : Int32) : x = nI x.toBitVec.toNat := by
  apply Int32.toBitVec_inj.1
  show x.toBitVec = BitVec.ofNat 32 x.toBitVec.toNat
  simp
theorem z_tb (x : Int32) (k : Nat) : bt x k = x.toBitVec.toNat.testBit k := rfl
theorem z_ge {x : Int32} {t : Nat} (h : bt x t = true) : 2 ^ t ≤ x.toBitVec.toNat := Nat.ge_two_pow_of_testBit (by rw [← z_tb]; exact h)
theorem z_lt {x : Int32} {t : Nat} (h : ∀ k, t < k → k < 32 → bt x k = false) : x.toBitVec.toNat < 2 ^ (t + 1) := by
  refine Nat.lt_pow_two_of_testBit _ (fun i hi => ?_)
  rw [← z_tb]
  rcases Nat.lt_or_ge i 32 with q | q
  · exact h i (by omega) q
  · exact b_big q
/-- the low mask of a number whose lowest set bit is t -/
theorem z_mask {x : Int32} {t : Nat} (ht : t < 32) (h1 : bt x t = true) (h2 : ∀ k, k < t → bt x k = false) : (x ^^^ (-1)) &&& (x - 1) = nI (2 ^ t - 1) := by
  have hp := Nat.two_pow_pos t
  have hv : x.toBitVec.toNat % 2 ^ t = 0 := by
    apply Nat.eq_of_testBit_eq
    intro j
    rw [Nat.testBit_mod_two_pow, Nat.zero_testBit]
    by_cases a : j < t
    · rw [← z_tb, h2 j a, Bool.and_false]
    · rw [decide_eq_false a, Bool.false_and]
  have ho : x.toBitVec.toNat / 2 ^ t % 2 = 1 := by
    have := h1
    rw [z_tb, Nat.testBit_eq_decide_div_mod_eq] at this
    exact of_decide_eq_true this
  obtain ⟨q, hq⟩ : ∃ q, x.toBitVec.toNat / 2 ^ t = 2 * q + 1 := ⟨x.toBitVec.toNat / 2 ^ t / 2, by omega⟩
  have e1 : x.toBitVec.toNat = 2 ^ t * (2 * q + 1) + 0 := by
    have := Nat.div_add_mod x.toBitVec.toNat (2 ^ t)
    rw [hv, hq] at this
    exact this.symm
  have hlt := x.toBitVec.isLt
  have e3 : (x - 1).toBitVec.toNat = x.toBitVec.toNat - 1 := by
    have h0 : 1 ≤ x.toBitVec.toNat := by
      have := z_ge h1
      omega
    show (x.toBitVec - 1#32).toNat = _
    rw [BitVec.toNat_sub]
    show (2 ^ 32 - 1 + x.toBitVec.toNat) % 2 ^ 32 = _
    omega
  have e2 : x.toBitVec.toNat - 1 = 2 ^ t * (2 * q) + (2 ^ t - 1) := by
    rw [e1, Nat.mul_add]
    omega
  refine b_ext fun j hj => ?_
  rw [b_and, b_xor, b_m1 j hj, z_tb (x - 1), e3, e2, Nat.testBit_two_pow_mul_add _ (by omega), z_tb x, e1, Nat.testBit_two_pow_mul_add _ hp]
  have hr : bt (nI (2 ^ t - 1)) j = decide (j < t) := by
    have hs : 2 ^ t ≤ 2 ^ 31 := Nat.pow_le_pow_right (by decide) (by omega)
    rw [z_tb, pk_tn (by omega), Nat.testBit_two_pow_sub_one]
  rw [hr]
  by_cases a : j < t
  · simp [a]
  · rw [if_neg a, if_neg a, decide_eq_false a]
    cases hd : j - t with
    | zero => simp
    | succ d =>
      rw [Nat.testBit_succ, Nat.testBit_succ, show (2 * q + 1) / 2 = q by omega, show 2 * q / 2 = q by omega]
      cases q.testBit d <;> rfl
theorem z_p1 (t : Nat) : 1 ≤ 2 ^ t := Nat.two_pow_pos t
theorem z_lt31 {t v : Nat} (ht : t < 31) (h : v < 2 ^ (t + 1)) : v < 2147483648 := by
  have h1 : 2 ^ (t + 1) ≤ 2 ^ 31 := Nat.pow_le_pow_right (by decide) (by omega)
  have h2 : (2 : Nat) ^ 31 = 2147483648 := by decide
  omega
theorem z_lgu {a b v : Nat} (h1 : 2 ^ a ≤ v) (h2 : v < 2 ^ (a + 1)) (h3 : 2 ^ b ≤ v) (h4 : v < 2 ^ (b + 1)) : a = b := by
  have x1 : a < b + 1 := (Nat.pow_lt_pow_iff_right (a := 2) (by decide)).mp (Nat.lt_of_le_of_lt h1 h4)
  have x2 : b < a + 1 := (Nat.pow_lt_pow_iff_right (a := 2) (by decide)).mp (Nat.lt_of_le_of_lt h3 h2)
  omega
theorem z_leaf {t v s q : Nat} (hq : q = 2 ^ s) (h1 : 2 ^ t ≤ v) (h2 : v < 2 ^ (t + 1)) (h3 : q ≤ v) (h4 : v < q * 4) : t = s + v / q / 2 := by
  have e1 : 2 ^ (s + 1) = q * 2 := by rw [Nat.pow_succ, ← hq]
  have e2 : 2 ^ (s + 1 + 1) = q * 4 := by rw [Nat.pow_succ, e1]; omega
  have hp : 0 < q := by rw [hq]; exact Nat.two_pow_pos s
  rcases Nat.lt_or_ge v (q * 2) with z | z
  · have e3 : v / q = 1 := by
      apply Nat.div_eq_of_lt_le <;> omega
    rw [e3, z_lgu h1 h2 (b := s) (by omega) (by omega)]
    omega
  · have e3 : v / q = 2 ∨ v / q = 3 := by
      have a1 : 2 ≤ v / q := (Nat.le_div_iff_mul_le hp).mpr (by omega)
      have a2 : v / q < 4 := (Nat.div_lt_iff_lt_mul hp).mpr (by omega)
      omega
    have e4 := z_lgu h1 h2 (b := s + 1) (by omega) (by omega)
    rcases e3 with e3 | e3 <;> (rw [e3]; omega)
theorem z_leaf2 {t v s q : Nat} (hq : q = 2 ^ s) (h : v = 2 ^ t - 1) (h1 : q ≤ v) (h2 : v / q ≤ 4) : t = s + 1 + v / q / 2 := by
  have hp : 0 < q := by rw [hq]; exact Nat.two_pow_pos s
  have ht := Nat.two_pow_pos t
  have hst : s < t := (Nat.pow_lt_pow_iff_right (a := 2) (by decide)).mp (by omega)
  obtain ⟨d, rfl⟩ : ∃ d, t = s + 1 + d := ⟨t - (s + 1), by omega⟩
  have e0 : 2 ^ (s + 1 + d) = q * (2 * 2 ^ d) := by
    rw [hq, Nat.pow_add, Nat.pow_succ, Nat.mul_assoc]
  have hd := Nat.two_pow_pos d
  have e1 : v / q = 2 * 2 ^ d - 1 := by
    apply Nat.div_eq_of_lt_le
    · rw [h, e0, Nat.mul_comm, Nat.mul_sub, Nat.mul_one]; omega
    · rw [h, e0, show 2 * 2 ^ d - 1 + 1 = 2 * 2 ^ d by omega, Nat.mul_comm]
      have : 0 < 2 * 2 ^ d * q := Nat.mul_pos (by omega) hp
      omega
  match d, e1 with
  | 0, e1 => rw [e1]
  | 1, e1 => rw [e1]
  | d + 2, e1 =>
    exfalso
    have : 4 ≤ 2 ^ (d + 2) := by
      have := Nat.pow_le_pow_right (n := 2) (by decide) (show 2 ≤ d + 2 by omega)
      exact this
    omega
theorem z_lt32 {t v : Nat} (ht : t < 32) (h : v = 2 ^ t - 1) : v < 2147483648 := by
  have h1 : 2 ^ t ≤ 2 ^ 31 := Nat.pow_le_pow_right (by decide) (by omega)
  have h2 : (2 : Nat) ^ 31 = 2147483648 := by decide
  have h3 := Nat.two_pow_pos t
  omega
theorem z_t0 {t v : Nat} (h : v = 2 ^ t - 1) (hv : v = 0) : t = 0 := by
  rcases Nat.eq_zero_or_pos t with q | q
  · exact q
  · have := Nat.pow_le_pow_right (n := 2) (by decide) (show 1 ≤ t by omega)
    omega
end
section
/-! HOW MANY BITS: Integer.bitCount's number is the count of the set bits -/
theorem z_and (a b : Nat) : nI a &&& nI b = nI (a &&& b) := by
  apply Int32.toBitVec_inj.1
  show BitVec.ofNat 32 a &&& BitVec.ofNat 32 b = BitVec.ofNat 32 (a &&& b)
  apply BitVec.eq_of_getLsbD_eq
  intro i hi
  simp [hi]
theorem zA (x m : Nat) : x &&& m = (x % 256 &&& m % 256) + 256 * (x / 256 &&& m / 256) := by
  have h1 : (x &&& m) % 256 = (x % 256 &&& m % 256) := Nat.and_mod_two_pow (n := 8)
  have h2 : (x &&& m) / 256 = (x / 256 &&& m / 256) := Nat.and_div_two_pow (n := 8)
  rw [← h1, ← h2]
  omega
def z4 (a b c d : Nat) : Nat := a + 256 * (b + 256 * (c + 256 * d))
theorem zA4 {a b c d k0 k1 k2 k3 : Nat} (ha : a < 256) (hb : b < 256) (hc : c < 256) (h0 : k0 < 256) (h1 : k1 < 256) (h2 : k2 < 256) : z4 a b c d &&& z4 k0 k1 k2 k3 = z4 (a &&& k0) (b &&& k1) (c &&& k2) (d &&& k3) := by
  have s1 := zA (z4 a b c d) (z4 k0 k1 k2 k3)
  rw [show z4 a b c d % 256 = a by unfold z4; omega, show z4 k0 k1 k2 k3 % 256 = k0 by unfold z4; omega, show z4 a b c d / 256 = b + 256 * (c + 256 * d) by unfold z4; omega, show z4 k0 k1 k2 k3 / 256 = k1 + 256 * (k2 + 256 * k3) by unfold z4; omega] at s1
  have s2 := zA (b + 256 * (c + 256 * d)) (k1 + 256 * (k2 + 256 * k3))
  rw [show (b + 256 * (c + 256 * d)) % 256 = b by omega, show (k1 + 256 * (k2 + 256 * k3)) % 256 = k1 by omega, show (b + 256 * (c + 256 * d)) / 256 = c + 256 * d by omega, show (k1 + 256 * (k2 + 256 * k3)) / 256 = k2 + 256 * k3 by omega] at s2
  have s3 := zA (c + 256 * d) (k2 + 256 * k3)
  rw [show (c + 256 * d) % 256 = c by omega, show (k2 + 256 * k3) % 256 = k2 by omega, show (c + 256 * d) / 256 = d by omega, show (k2 + 256 * k3) / 256 = k3 by omega] at s3
  rw [s1, s2, s3]
  rfl
def zg (a : Nat) : Nat := (a / 2) &&& 85
def zp1 (a : Nat) : Nat := a - zg a
def zp2 (p : Nat) : Nat := (p &&& 51) + ((p / 4) &&& 51)
def zpc (a : Nat) : Nat := zc (fun j => a.testBit j) 8
theorem zD1 : ∀ a, a < 256 → ∀ e, e < 2 → (a / 2 + 128 * e) &&& 85 = zg a := by decide +kernel
theorem zD1b : ∀ a, a < 256 → zg a ≤ a ∧ zp1 a < 256 := by decide +kernel
theorem zD2 : ∀ p, p < 256 → ∀ e, e < 4 → (p / 4 + 64 * e) &&& 51 = (p / 4) &&& 51 := by decide +kernel
theorem zD3 : ∀ a, a < 256 → zp2 (zp1 a) % 16 < 5 ∧ zp2 (zp1 a) < 69 ∧ zpc a < 9 := by decide +kernel
theorem zD4 : ∀ a, a < 256 → ∀ e, e < 5 → (zp2 (zp1 a) + zp2 (zp1 a) / 16 + 16 * e) &&& 15 = zpc a := by decide +kernel
theorem zS1 {a b c d : Nat} (ha : a < 256) (hb : b < 256) (hc : c < 256) (hd : d < 256) : nI (z4 a b c d) - (zu (nI (z4 a b c d)) 1 &&& 1431655765) = nI (z4 (zp1 a) (zp1 b) (zp1 c) (zp1 d)) := by
  have hv : z4 a b c d < 2 ^ 32 := by unfold z4; omega
  have e1 : zu (nI (z4 a b c d)) 1 = nI (z4 a b c d / 2) := pk_ushrN hv 1 1 (by decide)
  have e2 : z4 a b c d / 2 = z4 (a / 2 + 128 * (b % 2)) (b / 2 + 128 * (c % 2)) (c / 2 + 128 * (d % 2)) (d / 2 + 128 * 0) := by unfold z4; omega
  have e3 : (1431655765 : Int32) = nI (z4 85 85 85 85) := by decide
  rw [e1, e2, e3, z_and, zA4 (by omega) (by omega) (by omega) (by decide) (by decide) (by decide), zD1 a ha _ (by omega), zD1 b hb _ (by omega), zD1 c hc _ (by omega), zD1 d hd _ (by omega)]
  have ga := (zD1b a ha).1
  have gb := (zD1b b hb).1
  have gc := (zD1b c hc).1
  have gd := (zD1b d hd).1
  rw [pk_sub (by unfold z4; omega)]
  congr 1
  unfold zp1 z4
  omega
theorem zS2 {a b c d : Nat} (ha : a < 256) (hb : b < 256) (hc : c < 256) (hd : d < 256) : (nI (z4 a b c d) &&& 858993459) + (zu (nI (z4 a b c d)) 2 &&& 858993459) = nI (z4 (zp2 a) (zp2 b) (zp2 c) (zp2 d)) := by
  have hv : z4 a b c d < 2 ^ 32 := by unfold z4; omega
  have e1 : zu (nI (z4 a b c d)) 2 = nI (z4 a b c d / 4) := pk_ushrN hv 2 2 (by decide)
  have e2 : z4 a b c d / 4 = z4 (a / 4 + 64 * (b % 4)) (b / 4 + 64 * (c % 4)) (c / 4 + 64 * (d % 4)) (d / 4 + 64 * 0) := by unfold z4; omega
  have e3 : (858993459 : Int32) = nI (z4 51 51 51 51) := by decide
  rw [e1, e2, e3, z_and, z_and, zA4 ha hb hc (by decide) (by decide) (by decide), zA4 (by omega) (by omega) (by omega) (by decide) (by decide) (by decide), zD2 a ha _ (by omega), zD2 b hb _ (by omega), zD2 c hc _ (by omega), zD2 d hd _ (by omega), nI_add]
  congr 1
  unfold zp2 z4
  omega
theorem zS3b {u v w x a b c d : Nat} (hu : u < 69) (hv : v < 69) (hw : w < 69) (hx : x < 69) (gv : v % 16 < 5) (gw : w % 16 < 5) (gx : x % 16 < 5) (a4 : (u + u / 16 + 16 * (v % 16)) &&& 15 = a) (b4 : (v + v / 16 + 16 * (w % 16)) &&& 15 = b) (c4 : (w + w / 16 + 16 * (x % 16)) &&& 15 = c) (d4 : (x + x / 16 + 16 * 0) &&& 15 = d) : (nI (z4 u v w x) + zu (nI (z4 u v w x)) 4) &&& 252645135 = nI (z4 a b c d) := by
  have hv2 : z4 u v w x < 2 ^ 32 := by unfold z4; omega
  have e1 : zu (nI (z4 u v w x)) 4 = nI (z4 u v w x / 16) := pk_ushrN hv2 4 4 (by decide)
  have e2 : z4 u v w x + z4 u v w x / 16 = z4 (u + u / 16 + 16 * (v % 16)) (v + v / 16 + 16 * (w % 16)) (w + w / 16 + 16 * (x % 16)) (x + x / 16 + 16 * 0) := by unfold z4; omega
  have e3 : (252645135 : Int32) = nI (z4 15 15 15 15) := by decide
  rw [e1, nI_add, e2, e3, z_and, zA4 (by omega) (by omega) (by omega) (by decide) (by decide) (by decide), a4, b4, c4, d4]
theorem zS3 {a b c d : Nat} (ha : a < 256) (hb : b < 256) (hc : c < 256) (hd : d < 256) : (nI (z4 (zp2 (zp1 a)) (zp2 (zp1 b)) (zp2 (zp1 c)) (zp2 (zp1 d))) + zu (nI (z4 (zp2 (zp1 a)) (zp2 (zp1 b)) (zp2 (zp1 c)) (zp2 (zp1 d)))) 4) &&& 252645135 = nI (z4 (zpc a) (zpc b) (zpc c) (zpc d)) :=
  zS3b (zD3 a ha).2.1 (zD3 b hb).2.1 (zD3 c hc).2.1 (zD3 d hd).2.1 (zD3 b hb).1 (zD3 c hc).1 (zD3 d hd).1 (zD4 a ha _ (zD3 b hb).1) (zD4 b hb _ (zD3 c hc).1) (zD4 c hc _ (zD3 d hd).1) (zD4 d hd 0 (by decide))
theorem zS4 {a b c d : Nat} (ha : a < 9) (hb : b < 9) (hc : c < 9) (hd : d < 9) : (nI (z4 a b c d) + zu (nI (z4 a b c d)) 8) + zu (nI (z4 a b c d) + zu (nI (z4 a b c d)) 8) 16 &&& 63 = nI (a + b + c + d) := by
  have hv : z4 a b c d < 2 ^ 28 := by unfold z4; omega
  have e1 : zu (nI (z4 a b c d)) 8 = nI (z4 a b c d / 256) := pk_ushrN (by omega) 8 8 (by decide)
  rw [e1, nI_add]
  have e2 : zu (nI (z4 a b c d + z4 a b c d / 256)) 16 = nI ((z4 a b c d + z4 a b c d / 256) / 65536) := pk_ushrN (by omega) 16 16 (by decide)
  rw [e2, nI_add, pk_andN (by omega) 6 (by decide)]
  congr 1
  have d1 : z4 a b c d / 256 = b + 256 * (c + 256 * d) := by unfold z4; omega
  rw [d1]
  have d2 : (z4 a b c d + (b + 256 * (c + 256 * d))) / 65536 = (c + d) + 256 * d := by unfold z4; omega
  rw [d2]
  have d3 : z4 a b c d + (b + 256 * (c + 256 * d)) + ((c + d) + 256 * d) = (a + b + c + d) + 64 * (4 * (b + c + d) + 1024 * (c + d) + 262144 * d) := by unfold z4; omega
  rw [d3]
  omega
theorem zc_add (B : Nat → Bool) (k n : Nat) : zc B (k + n) = zc B k + zc (fun j => B (k + j)) n := by
  induction n with
  | zero => rfl
  | succ n ih =>
    rw [show k + (n + 1) = (k + n) + 1 by omega, zc_s, zc_s, ih]
    omega
def zP (x : Int32) : Int32 :=
  let i1 := x - (zu x 1 &&& 1431655765)
  let i2 := (i1 &&& 858993459) + (zu i1 2 &&& 858993459)
  let i3 := (i2 + zu i2 4) &&& 252645135
  let i4 := i3 + zu i3 8
  let i5 := i4 + zu i4 16
  i5 &&& 63
theorem z_pop4 {a b c d : Nat} (ha : a < 256) (hb : b < 256) (hc : c < 256) (hd : d < 256) : zP (nI (z4 a b c d)) = nI (zpc a + zpc b + zpc c + zpc d) := by
  unfold zP
  dsimp only
  rw [zS1 ha hb hc hd, zS2 (zD1b a ha).2 (zD1b b hb).2 (zD1b c hc).2 (zD1b d hd).2, zS3 ha hb hc hd, zS4 (zD3 a ha).2.2 (zD3 b hb).2.2 (zD3 c hc).2.2 (zD3 d hd).2.2]
theorem z_32 (B : Nat → Bool) : zc B 32 = zc B 8 + zc (fun j => B (8 + j)) 8 + zc (fun j => B (16 + j)) 8 + zc (fun j => B (24 + j)) 8 := by
  have h1 := zc_add B 24 8
  have h2 := zc_add B 16 8
  have h3 := zc_add B 8 8
  rw [show (24 + 8 : Nat) = 32 from rfl] at h1
  rw [show (16 + 8 : Nat) = 24 from rfl] at h2
  rw [show (8 + 8 : Nat) = 16 from rfl] at h3
  rw [h1, h2, h3]
theorem z_popc (x : Int32) : zc (bt x) 32 = zpc (x.toBitVec.toNat % 256) + zpc (x.toBitVec.toNat / 256 % 256) + zpc (x.toBitVec.toNat / 65536 % 256) + zpc (x.toBitVec.toNat / 16777216) := by
  rw [z_32]
  have e0 : zc (bt x) 8 = zpc (x.toBitVec.toNat % 256) := zc_congr (fun j hj => by
    show x.toBitVec.toNat.testBit j = (x.toBitVec.toNat % 2 ^ 8).testBit j
    rw [Nat.testBit_mod_two_pow, decide_eq_true hj, Bool.true_and])
  have e1 : zc (fun j => bt x (8 + j)) 8 = zpc (x.toBitVec.toNat / 256 % 256) := zc_congr (fun j hj => by
    show x.toBitVec.toNat.testBit (8 + j) = (x.toBitVec.toNat / 2 ^ 8 % 2 ^ 8).testBit j
    rw [Nat.testBit_mod_two_pow, decide_eq_true hj, Bool.true_and, Nat.testBit_div_two_pow, Nat.add_comm])
  have e2 : zc (fun j => bt x (16 + j)) 8 = zpc (x.toBitVec.toNat / 65536 % 256) := zc_congr (fun j hj => by
    show x.toBitVec.toNat.testBit (16 + j) = (x.toBitVec.toNat / 2 ^ 16 % 2 ^ 8).testBit j
    rw [Nat.testBit_mod_two_pow, decide_eq_true hj, Bool.true_and, Nat.testBit_div_two_pow, Nat.add_comm])
  have e3 : zc (fun j => bt x (24 + j)) 8 = zpc (x.toBitVec.toNat / 16777216) := zc_congr (fun j hj => by
    show x.toBitVec.toNat.testBit (24 + j) = (x.toBitVec.toNat / 2 ^ 24).testBit j
    rw [Nat.testBit_div_two_pow, Nat.add_comm])
  rw [e0, e1, e2, e3]
theorem z_pop (x : Int32) : zP x = nI (zc (bt x) 32) := by
  have hlt : x.toBitVec.toNat < 2 ^ 32 := x.toBitVec.isLt
  have hx : nI (z4 (x.toBitVec.toNat % 256) (x.toBitVec.toNat / 256 % 256) (x.toBitVec.toNat / 65536 % 256) (x.toBitVec.toNat / 16777216)) = x := by
    rw [show z4 (x.toBitVec.toNat % 256) (x.toBitVec.toNat / 256 % 256) (x.toBitVec.toNat / 65536 % 256) (x.toBitVec.toNat / 16777216) = x.toBitVec.toNat by unfold z4; omega]
    exact (z_num x).symm
  have h := z_pop4 (a := x.toBitVec.toNat % 256) (b := x.toBitVec.toNat / 256 % 256) (c := x.toBitVec.toNat / 65536 % 256) (d := x.toBitVec.toNat / 16777216) (by omega) (by omega) (by omega) (by omega)
  rw [hx] at h
  rw [h, z_popc]
theorem z_nlz0 {x : Int32} {t v : Nat} (ht : t < 32) (ex : x = nI v) (a1 : 2 ^ t ≤ v) (a2 : v < 2 ^ (t + 1)) (c : ¬ 0 < x) : (0 : Int32) = nI (31 - t) := by
  rcases Nat.lt_or_ge t 31 with q | q
  · refine absurd ?_ c
    rw [ex, ← nI_0]
    have p1 := z_p1 t
    have p2 := z_lt31 q a2
    exact nI_lt (by omega) (by omega)
  · rw [show 31 - t = 0 by omega]
    exact nI_0.symm
theorem z_nlz1 {x : Int32} {t v : Nat} (ht : t < 32) (ex : x = nI v) (a1 : 2 ^ t ≤ v) (c : 0 < x) (hv : v < 2 ^ 32) : t < 31 := by
  rcases Nat.lt_or_ge t 31 with q | q
  · exact q
  · have e : t = 31 := by omega
    subst e
    exfalso
    rw [Int32.lt_iff_toInt_lt, ex, Int32.toInt_zero] at c
    have h : (nI v).toInt = (v : Int) - 4294967296 := by
      show (BitVec.ofNat 32 v).toInt = _
      rw [BitVec.toInt_eq_toNat_cond, BitVec.toNat_ofNat, Nat.mod_eq_of_lt hv, if_neg (by omega)]
      rfl
    omega
theorem z_ntz0 {t v : Nat} (h1 : t = 0) (h2 : v = 0) : nI v &&& nI 32 = nI t := by
  subst h1 h2
  decide
end
section
/-! THE CLASS'S STATE: n cells, p pieces, the marks M, the start table S -/
def zCI (n p : Nat) (M S : Nat → Int32) : Prop := 1 ≤ n ∧ n ≤ 16384 ∧ zm M 0 = true ∧ (∀ j, n ≤ j → j < 16384 → zm M j = false) ∧ p = zc (zm M) n ∧ ∀ c, 32 * c < n → S c = nI (zb (zm M) (32 * c))
theorem z_beg0 {M : Nat → Int32} {c : Nat} (h0 : zm M 0 = true) (hf : M (c / 32) &&& zu (-1) (nI (31 - c % 32)) = 0) : zb (zm M) c = zb (zm M) (32 * (c / 32)) := by
  have hb := zb_le (zm M) (32 * (c / 32))
  refine zb_uniq (by omega) (Or.inr (zb_on h0 _)) (fun j h1 h2 => ?_)
  rcases Nat.lt_or_ge (32 * (c / 32)) j with q | q
  · have e : j = 32 * (c / 32) + j % 32 := by omega
    have hj : j % 32 < 32 := Nat.mod_lt _ (by decide)
    have z : bt (M (c / 32) &&& zu (-1) (nI (31 - c % 32))) (j % 32) = false := by rw [hf, b_0]
    rw [b_and, zm_lo (c % 32) (Nat.mod_lt _ (by decide)) _ hj, decide_eq_true (by omega), Bool.and_true] at z
    rw [e, zm_at M hj]
    exact z
  · exact zb_off _ j h1 q
theorem z_beg1 {M : Nat → Int32} {c t : Nat} (ht : t < 32) (h1 : bt (M (c / 32) &&& zu (-1) (nI (31 - c % 32))) t = true) (h2 : ∀ k, t < k → k < 32 → bt (M (c / 32) &&& zu (-1) (nI (31 - c % 32))) k = false) : zb (zm M) c = 32 * (c / 32) + t := by
  rw [b_and, zm_lo (c % 32) (Nat.mod_lt _ (by decide)) _ ht, Bool.and_eq_true, decide_eq_true_eq] at h1
  refine zb_uniq (by omega) (Or.inr (by rw [zm_at M ht]; exact h1.1)) (fun j h3 h4 => ?_)
  have e : j = 32 * (c / 32) + j % 32 := by omega
  have hj : j % 32 < 32 := Nat.mod_lt _ (by decide)
  have z := h2 (j % 32) (by omega) hj
  rw [b_and, zm_lo (c % 32) (Nat.mod_lt _ (by decide)) _ hj, decide_eq_true (by omega), Bool.and_true] at z
  rw [e, zm_at M hj]
  exact z
/-- the search for the next begin: nothing from k up to lo; w marks what of this card is still to be seen -/
def zI (M : Nat → Int32) (k card : Nat) (w : Int32) : Prop := ∃ lo, k ≤ lo ∧ 32 * card ≤ lo ∧ lo ≤ 32 * card + 32 ∧ (∀ j, k ≤ j → j < lo → zm M j = false) ∧ ∀ i, i < 32 → bt w i = decide (lo ≤ 32 * card + i)
theorem zI_0 (M : Nat → Int32) (k : Nat) : zI M k (k / 32) ((-1 : Int32) <<< (nI (k % 32) &&& 31)) := by
  refine ⟨k, Nat.le_refl _, by omega, by omega, fun j h1 h2 => absurd h1 (by omega), fun i hi => ?_⟩
  rw [zm_hi (k % 32) (Nat.mod_lt _ (by decide)) i hi]
  exact decide_eq_decide.mpr ⟨fun q => by omega, fun q => by omega⟩
theorem zI_cell {M : Nat → Int32} {card lo : Nat} {w : Int32} (h4 : ∀ i, i < 32 → bt w i = decide (lo ≤ 32 * card + i)) {j : Nat} (h5 : lo ≤ j) (h6 : 32 * card ≤ j) (h7 : j < 32 * card + 32) : zm M j = bt (M card &&& w) (j - 32 * card) := by
  have e : j = 32 * card + (j - 32 * card) := by omega
  have hj : j - 32 * card < 32 := by omega
  rw [b_and, h4 _ hj, decide_eq_true (by omega), Bool.and_true]
  conv => lhs; rw [e]
  rw [zm_at M hj]
theorem zI_s {M : Nat → Int32} {k card : Nat} {w : Int32} (h : zI M k card w) (hf : M card &&& w = 0) : zI M k (card + 1) (-1) := by
  obtain ⟨lo, h1, h2, h2b, h3, h4⟩ := h
  refine ⟨32 * (card + 1), by omega, by omega, by omega, fun j h5 h6 => ?_, fun i hi => ?_⟩
  · rcases Nat.lt_or_ge j lo with z | z
    · exact h3 j h5 z
    · rw [zI_cell (M := M) h4 z (by omega) (by omega), hf, b_0]
  · rw [b_m1 i hi, decide_eq_true (by omega)]
theorem zI_hit {M : Nat → Int32} {n k card t : Nat} {w : Int32} (h : zI M k card w) (hk : k ≤ n) (hc : card < 512) (hM : ∀ j, n ≤ j → j < 16384 → zm M j = false) (ht : t < 32) (h8 : bt (M card &&& w) t = true) (h9 : ∀ i, i < t → bt (M card &&& w) i = false) : zn (zm M) n k = 32 * card + t ∧ 32 * card + t < n := by
  obtain ⟨lo, h1, h2, h2b, h3, h4⟩ := h
  have hw : lo ≤ 32 * card + t := by
    have z := h8
    rw [b_and, h4 t ht, Bool.and_eq_true, decide_eq_true_eq] at z
    exact z.2
  have hz : zm M (32 * card + t) = true := by
    rw [zI_cell (M := M) h4 hw (by omega) (by omega), show 32 * card + t - 32 * card = t by omega]
    exact h8
  have hn : 32 * card + t < n := by
    rcases Nat.lt_or_ge (32 * card + t) n with q | q
    · exact q
    · rw [hM _ q (by omega)] at hz; cases hz
  refine ⟨zn_uniq (by omega) (by omega) (Or.inr hz) (fun j h5 h6 => ?_), hn⟩
  rcases Nat.lt_or_ge j lo with z | z
  · exact h3 j h5 z
  · rw [zI_cell (M := M) h4 z (by omega) (by omega)]
    exact h9 _ (by omega)
theorem zI_end {M : Nat → Int32} {n k card : Nat} {w : Int32} (h : zI M k card w) (hk : k ≤ n) (hc : (n + 31) / 32 ≤ card) : zn (zm M) n k = n := by
  obtain ⟨lo, h1, h2, h2b, h3, h4⟩ := h
  exact zn_uniq hk (Nat.le_refl _) (Or.inl rfl) (fun j h5 h6 => h3 j h5 (by omega))
/-- what tellStarts leaves -/
def zT (S : Nat → Int32) (a b : Nat) (S' : Nat → Int32) : Prop := ∀ j, j < 512 → S' j = if a ≤ 32 * j ∧ 32 * j < b then nI a else S j
theorem zT_in {S S' : Nat → Int32} {a b j : Nat} (h : zT S a b S') (hj : j < 512) (h1 : a ≤ 32 * j) (h2 : 32 * j < b) : S' j = nI a := by rw [h j hj, if_pos ⟨h1, h2⟩]
theorem zT_out {S S' : Nat → Int32} {a b j : Nat} (h : zT S a b S') (hj : j < 512) (h1 : 32 * j < a ∨ b ≤ 32 * j) : S' j = S j := by rw [h j hj, if_neg (by omega)]
/-- starts behind a change: a begin at a, none up to b, where one begins or the row ends; ahead of a and from b on as before -/
theorem z_starts {n p a b : Nat} {M S M' S' : Nat → Int32} (h : zCI n p M S) (hab : a < b) (hbn : b ≤ n) (ha : zm M' a = true) (hno : ∀ j, a < j → j < b → zm M' j = false) (hb : b = n ∨ (zm M b = true)) (hlo : ∀ j, j < a → zm M' j = zm M j) (hhi : ∀ j, b ≤ j → j < 16384 → zm M' j = zm M j) (hT : zT S a b S') : ∀ c, 32 * c < n → S' c = nI (zb (zm M') (32 * c)) := by
  obtain ⟨i1, i2, i3, i4, i5, i6⟩ := h
  intro c hc
  rcases Nat.lt_or_ge (32 * c) a with q | q
  · rw [zT_out hT (by omega) (Or.inl q), i6 c hc, zb_congr (B := zm M') (C := zm M) (fun j hj => hlo j (by omega))]
  · rcases Nat.lt_or_ge (32 * c) b with z | z
    · rw [zT_in hT (by omega) q z, zb_uniq q (Or.inr ha) (fun j h1 h2 => hno j h1 (by omega))]
    · rw [zT_out hT (by omega) (Or.inr z), i6 c hc]
      have hzb : zm M b = true := by
        rcases hb with hb | hb
        · omega
        · exact hb
      have hge : b ≤ zb (zm M) (32 * c) := by
        rcases Nat.lt_or_ge (zb (zm M) (32 * c)) b with w | w
        · rw [zb_off (B := zm M) (32 * c) b w z] at hzb; cases hzb
        · exact w
      have hle := zb_le (zm M) (32 * c)
      congr 1
      refine (zb_uniq hle (Or.inr ?_) (fun j h1 h2 => ?_)).symm
      · rw [hhi _ hge (by omega)]
        exact zb_on i3 _
      · rw [hhi j (by omega) (by omega)]
        exact zb_off _ j h1 h2
/-- a cut at c, where none begins -/
theorem z_cut {n p c : Nat} {M S M' S' : Nat → Int32} (h : zCI n p M S) (hc : c < n) (hz : zb (zm M) c ≠ c) (hM : ∀ j, zm M' j = (zm M j || decide (j = c))) (hT : zT S c (zn (zm M') n (c + 1)) S') : zCI n (p + 1) M' S' := by
  have hs := h
  obtain ⟨i1, i2, i3, i4, i5, i6⟩ := h
  have hoff : zm M c = false := by
    cases hb : zm M c
    · rfl
    · exact absurd (zb_uniq (Nat.le_refl c) (Or.inr hb) (fun j h1 h2 => absurd h1 (by omega))) hz
  have hon : zm M' c = true := by rw [hM, decide_eq_true rfl, Bool.or_true]
  have hne : ∀ j, j ≠ c → zm M' j = zm M j := fun j hj => by rw [hM, decide_eq_false hj, Bool.or_false]
  have g1 := zn_ge (zm M') n (c + 1)
  have g2 : zn (zm M') n (c + 1) ≤ n := zn_le (by omega)
  refine ⟨i1, i2, by rw [hM, i3, Bool.true_or], fun j h1 h2 => by rw [hne j (by omega)]; exact i4 j h1 h2, ?_, ?_⟩
  · rw [i5]
    exact (zc_set hc hoff hon (fun j _ hj => hne j hj)).symm
  · refine z_starts hs (by omega) g2 hon (fun j h1 h2 => zn_off j (by omega) h2) ?_ (fun j hj => hne j (by omega)) (fun j hj _ => hne j (by omega)) hT
    rcases Nat.lt_or_ge (zn (zm M') n (c + 1)) n with q | q
    · have := zn_on q
      rw [hne _ (by omega)] at this
      exact Or.inr this
    · exact Or.inl (by omega)
/-- what merge leaves: the begins between a and b are gone -/
def zG (M M' : Nat → Int32) (a b : Nat) : Prop := ∀ j, j < 16384 → zm M' j = (zm M j && !decide (a < j ∧ j < b))
theorem zG_in {M M' : Nat → Int32} {a b j : Nat} (h : zG M M' a b) (hj : j < 16384) (h1 : a < j) (h2 : j < b) : zm M' j = false := by rw [h j hj, decide_eq_true ⟨h1, h2⟩, Bool.not_true, Bool.and_false]
theorem zG_out {M M' : Nat → Int32} {a b j : Nat} (h : zG M M' a b) (hj : j < 16384) (h1 : j ≤ a ∨ b ≤ j) : zm M' j = zm M j := by rw [h j hj, decide_eq_false (by omega), Bool.not_false, Bool.and_true]
theorem z_merge {n p a b : Nat} {M S M' S' : Nat → Int32} (h : zCI n p M S) (hab : a < b) (hbn : b ≤ n) (ha : zm M a = true) (hb : b = n ∨ zm M b = true) (hG : zG M M' a b) (hT : zT S a b S') : zCI n (zc (zm M') n) M' S' := by
  have hs := h
  obtain ⟨i1, i2, i3, i4, i5, i6⟩ := h
  refine ⟨i1, i2, ?_, ?_, rfl, ?_⟩
  · rw [zG_out hG (by omega) (Or.inl (by omega))]; exact i3
  · intro j h1 h2
    rw [zG_out hG h2 (Or.inr (by omega))]
    exact i4 j h1 h2
  · exact z_starts hs hab hbn (by rw [zG_out hG (by omega) (Or.inl (Nat.le_refl _))]; exact ha) (fun j h1 h2 => zG_in hG (by omega) h1 h2) hb (fun j hj => zG_out hG (by omega) (Or.inl (by omega))) (fun j h1 h2 => zG_out hG h2 (Or.inr h1)) hT
/-- merge's loop: up to e all is cleared -/
theorem zG_0 {M : Nat → Int32} {n a : Nat} (hn : n ≤ 16384) (ha : a < n) (h4 : ∀ j, n ≤ j → j < 16384 → zm M j = false) : zG M M a (zn (zm M) n (a + 1)) := by
  intro j hj
  by_cases q : a < j ∧ j < zn (zm M) n (a + 1)
  · rw [decide_eq_true q, Bool.not_true, Bool.and_false]
    exact zn_off j (by omega) q.2
  · rw [decide_eq_false q, Bool.not_false, Bool.and_true]
theorem zG_s {M M1 M2 : Nat → Int32} {n a e : Nat} (hn : n ≤ 16384) (hG : zG M M1 a e) (hae : a < e) (hen : e < n) (hM : ∀ j, zm M2 j = (zm M1 j && !decide (j = e))) : zG M M2 a (zn (zm M2) n (e + 1)) := by
  intro j hj
  have g1 := zn_ge (zm M2) n (e + 1)
  by_cases q : a < j ∧ j < zn (zm M2) n (e + 1)
  · rw [decide_eq_true q, Bool.not_true, Bool.and_false]
    rcases Nat.lt_trichotomy j e with z | z | z
    · rw [hM, zG_in hG hj q.1 z, Bool.false_and]
    · rw [hM, decide_eq_true z, Bool.not_true, Bool.and_false]
    · exact zn_off j (by omega) q.2
  · rw [decide_eq_false q, Bool.not_false, Bool.and_true, hM, decide_eq_false (by omega), Bool.not_false, Bool.and_true]
    exact zG_out hG hj (by omega)
theorem zG_next {M M1 M2 : Nat → Int32} {n a b e : Nat} (hn : n ≤ 16384) (hG : zG M M1 a e) (hae : a < e) (heb : e < b) (hbn : b ≤ n) (hb : b = n ∨ zm M b = true) (hM : ∀ j, zm M2 j = (zm M1 j && !decide (j = e))) : zn (zm M2) n (e + 1) ≤ b := by
  rcases Nat.lt_or_ge b (zn (zm M2) n (e + 1)) with q | q
  · have g2 : zn (zm M2) n (e + 1) ≤ n := zn_le (by omega)
    have z := zn_off (B := zm M2) (n := n) (k := e + 1) b (by omega) q
    rw [hM, decide_eq_false (by omega), Bool.not_false, Bool.and_true, zG_out hG (by omega) (Or.inr (by omega))] at z
    rcases hb with hb | hb
    · omega
    · rw [z] at hb; cases hb
  · exact q
theorem z_nxo {B : Nat → Bool} {n k : Nat} (h : k ≤ n) : zn B n k = n ∨ B (zn B n k) = true := by
  rcases Nat.lt_or_ge (zn B n k) n with q | q
  · exact Or.inr (zn_on q)
  · exact Or.inl (by have := zn_le (B := B) h; omega)
theorem z_nxb {B : Nat → Bool} {n a b : Nat} (h1 : a < b) (h2 : b ≤ n) (h3 : b = n ∨ B b = true) : zn B n (a + 1) ≤ b := by
  have g := zn_le (B := B) (n := n) (k := a + 1) (by omega)
  rcases Nat.lt_or_ge b (zn B n (a + 1)) with q | q
  · have z := zn_off (B := B) (n := n) (k := a + 1) b (by omega) q
    rcases h3 with h3 | h3
    · omega
    · rw [z] at h3; cases h3
  · exact q
theorem zc_0 {B : Nat → Bool} {a b : Nat} (hab : a ≤ b) (h : ∀ j, a ≤ j → j < b → B j = false) : zc B b = zc B a := by
  induction b with
  | zero => have e : a = 0 := by omega
            rw [e]
  | succ b ih =>
    rcases Nat.lt_or_ge b a with q | q
    · have e : a = b + 1 := by omega
      rw [e]
    · rw [zc_s, h b q (by omega), ih q (fun j h1 h2 => h j h1 (by omega))]
      simp
theorem zc_next {B : Nat → Bool} {n k : Nat} (h : B k = true) (hk : k < n) : zc B (zn B n (k + 1)) = zc B k + 1 := by
  rw [zc_0 (zn_ge B n (k + 1)) (fun j h1 h2 => zn_off j h1 h2), zc_s, if_pos h]
theorem z_lay {k : Nat} {M1 S1 : Nat → Int32} (h1 : 1 ≤ k) (h2 : k ≤ 16384) (hM : ∀ j, j < 512 → M1 j = nI 0) (hS : ∀ j, j < 512 → S1 j = nI 0) : zCI k 1 (upd M1 0 (nI 1)) S1 ∧ ∀ j, j < 16384 → zm (upd M1 0 (nI 1)) j = decide (j = 0) := by
  have key : ∀ j, j < 16384 → zm (upd M1 0 (nI 1)) j = decide (j = 0) := by
    intro j hj
    unfold zm
    by_cases q : j / 32 = 0
    · rw [q, pk_us]
      have e : j % 32 = j := by omega
      rw [e]
      exact (by decide +kernel : ∀ i, i < 32 → bt (nI 1) i = decide (i = 0)) j (by omega)
    · rw [pk_un q, hM _ (by omega), decide_eq_false (by omega)]
      exact b_0 _
  refine ⟨⟨h1, h2, key 0 (by decide), fun j a b => by rw [key j b, decide_eq_false (by omega)], ?_, fun c hc => ?_⟩, key⟩
  · rw [zc_0 (B := zm (upd M1 0 (nI 1))) (a := 1) h1 (fun j a b => by rw [key j (by omega), decide_eq_false (by omega)]), zc_s, if_pos (key 0 (by decide))]
    rfl
  · rw [hS c (by omega), zb_uniq (Nat.zero_le _) (Or.inl rfl) (fun j a b => by rw [key j (by omega), decide_eq_false (by omega)])]
/-- the sizes of the pieces from k on, folded -/
def zF (g : Nat → Nat → Nat) (B : Nat → Bool) (n : Nat) : Nat → Nat → Nat → Nat
  | 0, _, a => a
  | f + 1, k, a => zF g B n f (zn B n (k + 1)) (g a (zn B n (k + 1) - k))
theorem z_max {a b : Nat} (ha : a < 2147483648) (hb : b < 2147483648) : (if nI a < nI b then nI b else nI a) = nI (max a b) := by
  rcases Nat.lt_or_ge a b with q | q
  · rw [if_pos (nI_lt q hb), Nat.max_eq_right (by omega)]
  · rw [if_neg (nI_nlt q ha), Nat.max_eq_left q]
theorem z_min {a b : Nat} (ha : a < 2147483648) (hb : b < 2147483648) : (if nI b < nI a then nI b else nI a) = nI (min a b) := by
  rcases Nat.lt_or_ge b a with q | q
  · rw [if_pos (nI_lt q ha), Nat.min_eq_right (by omega)]
  · rw [if_neg (nI_nlt q hb), Nat.min_eq_left q]
theorem z_inof {x : Int32} {n : Nat} (h1 : ¬ x < 0) (h2 : x < nI n) (hn : n < 2147483648) : ∃ k, k < n ∧ x = nI k := by
  obtain ⟨j, hj, rfl⟩ := nI_of h1
  exact ⟨j, (nI_ltI hj hn).mp h2, rfl⟩
theorem z_join0 {M : Nat → Int32} {n k : Nat} (h : ¬ zn (zm M) n k < n) (i4 : ∀ j, n ≤ j → j < 16384 → zm M j = false) : ∀ j, j < 16384 → zm M j = (zm M j && !decide (j = zn (zm M) n k)) := by
  intro j hj
  by_cases q : j = zn (zm M) n k
  · rw [i4 j (by omega) hj, Bool.false_and]
  · rw [decide_eq_false q, Bool.not_false, Bool.and_true]
theorem z_join1 {M M' : Nat → Int32} {n k : Nat} (hk : k < n) (h : zG M M' (zb (zm M) k) (zn (zm M) n (zn (zm M) n (k + 1) + 1))) : ∀ j, j < 16384 → zm M' j = (zm M j && !decide (j = zn (zm M) n (k + 1))) := by
  intro j hj
  have a1 := zb_le (zm M) k
  have a2 := zn_ge (zm M) n (k + 1)
  have a3 := zn_ge (zm M) n (zn (zm M) n (k + 1) + 1)
  rw [h j hj]
  by_cases q : j = zn (zm M) n (k + 1)
  · rw [decide_eq_true q, decide_eq_true (by omega)]
  · rw [decide_eq_false q]
    by_cases z : zb (zm M) k < j ∧ j < zn (zm M) n (zn (zm M) n (k + 1) + 1)
    · rw [decide_eq_true z]
      have e : zm M j = false := by
        rcases Nat.lt_or_ge k j with w | w
        · rcases Nat.lt_or_ge j (zn (zm M) n (k + 1)) with v | v
          · exact zn_off j (by omega) v
          · exact zn_off (k := zn (zm M) n (k + 1) + 1) j (by omega) z.2
        · exact zb_off k j z.1 w
      rw [e, Bool.false_and, Bool.false_and]
    · rw [decide_eq_false z]
theorem z_make0 {M M1 M' : Nat → Int32} {n a b : Nat} (hb : b = n) (h1 : ∀ j, zm M1 j = (zm M j || decide (j = a))) (h : zG M1 M' a b) : ∀ j, j < 16384 → zm M' j = ((zm M j || decide (j = a) || (decide (j = b) && decide (b < n))) && !decide (a < j ∧ j < b)) := by
  intro j hj
  rw [h j hj, h1, decide_eq_false (show ¬ b < n by omega), Bool.and_false, Bool.or_false]
theorem z_make1 {M M1 M2 M' : Nat → Int32} {n a b : Nat} (hb : b < n) (h1 : ∀ j, zm M1 j = (zm M j || decide (j = a))) (h2 : ∀ j, zm M2 j = (zm M1 j || decide (j = b))) (h : zG M2 M' a b) : ∀ j, j < 16384 → zm M' j = ((zm M j || decide (j = a) || (decide (j = b) && decide (b < n))) && !decide (a < j ∧ j < b)) := by
  intro j hj
  rw [h j hj, h2, h1, decide_eq_true hb, Bool.and_true]
theorem z_mkof {z : Int32} {k n : Nat} (h1 : ¬ z ≤ nI k) (h2 : z ≤ nI n) (hn : k < n ∧ n < 2147483648) : ∃ b, k < b ∧ b ≤ n ∧ z = nI b := by
  have h0 : ¬ z < 0 := by
    intro q
    apply h1
    rw [Int32.le_iff_toInt_le, nI_toInt (by omega)]
    rw [Int32.lt_iff_toInt_lt, Int32.toInt_zero] at q
    omega
  obtain ⟨j, hj, rfl⟩ := nI_of h0
  refine ⟨j, ?_, (nI_leI hj hn.2).mp h2, rfl⟩
  rcases Nat.lt_or_ge k j with q | q
  · exact q
  · exact absurd (nI_le q (by omega)) h1
theorem z_spof {x : Int32} (h1 : ¬ x < nI 1) (h2 : x ≤ nI 16384) : ∃ k, 1 ≤ k ∧ k ≤ 16384 ∧ x = nI k := by
  have h0 : ¬ x < 0 := by
    intro q
    apply h1
    rw [Int32.lt_iff_toInt_lt, nI_toInt (by omega)]
    rw [Int32.lt_iff_toInt_lt, Int32.toInt_zero] at q
    omega
  obtain ⟨j, hj, rfl⟩ := nI_of h0
  refine ⟨j, ?_, (nI_leI hj (by omega)).mp h2, rfl⟩
  rcases Nat.lt_or_ge j 1 with q | q
  · exact absurd (nI_lt q (by omega)) h1
  · exact q
theorem z_sw5 (x : Int32) : x = nI 0 ∨ x = nI 1 ∨ x = nI 2 ∨ x = nI 3 ∨ x = nI 4 ∨ (x.toInt < 0 ∨ 4 < x.toInt) := by
  have key : ∀ k : Nat, k < 5 → x.toInt = k → x = nI k := fun k hk h => Int32.toInt_inj.mp (by rw [h, nI_toInt (by omega)])
  by_cases h : x.toInt < 0 ∨ 4 < x.toInt
  · exact Or.inr (Or.inr (Or.inr (Or.inr (Or.inr h))))
  · have e : x.toInt = 0 ∨ x.toInt = 1 ∨ x.toInt = 2 ∨ x.toInt = 3 ∨ x.toInt = 4 := by omega
    rcases e with e | e | e | e | e
    · exact Or.inl (key 0 (by omega) e)
    · exact Or.inr (Or.inl (key 1 (by omega) e))
    · exact Or.inr (Or.inr (Or.inl (key 2 (by omega) e)))
    · exact Or.inr (Or.inr (Or.inr (Or.inl (key 3 (by omega) e))))
    · exact Or.inr (Or.inr (Or.inr (Or.inr (Or.inl (key 4 (by omega) e)))))
theorem z_sw5n {x : Int32} (h : x.toInt < 0 ∨ 4 < x.toInt) : ¬ (x = nI 0 ∨ x = nI 1 ∨ x = nI 2 ∨ x = nI 3 ∨ x = nI 4) := by
  rintro (rfl | rfl | rfl | rfl | rfl) <;> revert h <;> decide
end
