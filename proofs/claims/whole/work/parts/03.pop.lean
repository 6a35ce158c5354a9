/-! HOW MANY BITS: Integer.bitCount's number is the count of the set bits -/
theorem z_and (a b : Nat) : nI a &&& nI b = nI (a &&& b) := by
  apply Int32.toBitVec_inj.1
  show BitVec.ofNat 32 a &&& BitVec.ofNat 32 b = BitVec.ofNat 32 (a &&& b)
  apply BitVec.eq_of_getLsbD_eq
  intro i hi
  simp [hi]
theorem zA (x m : Nat) : x &&& m = (x % 256 &&& m % 256) + 256 * (x / 256 &&& m / 256) := by
  have h1 : (x &&& m) % 256 = (x % 256 &&& m % 256) := Nat.and_mod_two_pow (n := 8)
  have h2 : (x &&& m) / 256 = (x / 256 &&& m / 256) := Nat.and_div_two_pow (n := 8)
  rw [← h1, ← h2]
  omega
def z4 (a b c d : Nat) : Nat := a + 256 * (b + 256 * (c + 256 * d))
theorem zA4 {a b c d k0 k1 k2 k3 : Nat} (ha : a < 256) (hb : b < 256) (hc : c < 256) (h0 : k0 < 256) (h1 : k1 < 256) (h2 : k2 < 256) : z4 a b c d &&& z4 k0 k1 k2 k3 = z4 (a &&& k0) (b &&& k1) (c &&& k2) (d &&& k3) := by
  have s1 := zA (z4 a b c d) (z4 k0 k1 k2 k3)
  rw [show z4 a b c d % 256 = a by unfold z4; omega, show z4 k0 k1 k2 k3 % 256 = k0 by unfold z4; omega, show z4 a b c d / 256 = b + 256 * (c + 256 * d) by unfold z4; omega, show z4 k0 k1 k2 k3 / 256 = k1 + 256 * (k2 + 256 * k3) by unfold z4; omega] at s1
  have s2 := zA (b + 256 * (c + 256 * d)) (k1 + 256 * (k2 + 256 * k3))
  rw [show (b + 256 * (c + 256 * d)) % 256 = b by omega, show (k1 + 256 * (k2 + 256 * k3)) % 256 = k1 by omega, show (b + 256 * (c + 256 * d)) / 256 = c + 256 * d by omega, show (k1 + 256 * (k2 + 256 * k3)) / 256 = k2 + 256 * k3 by omega] at s2
  have s3 := zA (c + 256 * d) (k2 + 256 * k3)
  rw [show (c + 256 * d) % 256 = c by omega, show (k2 + 256 * k3) % 256 = k2 by omega, show (c + 256 * d) / 256 = d by omega, show (k2 + 256 * k3) / 256 = k3 by omega] at s3
  rw [s1, s2, s3]
  rfl
def zg (a : Nat) : Nat := (a / 2) &&& 85
def zp1 (a : Nat) : Nat := a - zg a
def zp2 (p : Nat) : Nat := (p &&& 51) + ((p / 4) &&& 51)
def zpc (a : Nat) : Nat := zc (fun j => a.testBit j) 8
theorem zD1 : ∀ a, a < 256 → ∀ e, e < 2 → (a / 2 + 128 * e) &&& 85 = zg a := by decide +kernel
theorem zD1b : ∀ a, a < 256 → zg a ≤ a ∧ zp1 a < 256 := by decide +kernel
theorem zD2 : ∀ p, p < 256 → ∀ e, e < 4 → (p / 4 + 64 * e) &&& 51 = (p / 4) &&& 51 := by decide +kernel
theorem zD3 : ∀ a, a < 256 → zp2 (zp1 a) % 16 < 5 ∧ zp2 (zp1 a) < 69 ∧ zpc a < 9 := by decide +kernel
theorem zD4 : ∀ a, a < 256 → ∀ e, e < 5 → (zp2 (zp1 a) + zp2 (zp1 a) / 16 + 16 * e) &&& 15 = zpc a := by decide +kernel
theorem zS1 {a b c d : Nat} (ha : a < 256) (hb : b < 256) (hc : c < 256) (hd : d < 256) : nI (z4 a b c d) - (zu (nI (z4 a b c d)) 1 &&& 1431655765) = nI (z4 (zp1 a) (zp1 b) (zp1 c) (zp1 d)) := by
  have hv : z4 a b c d < 2 ^ 32 := by unfold z4; omega
  have e1 : zu (nI (z4 a b c d)) 1 = nI (z4 a b c d / 2) := pk_ushrN hv 1 1 (by decide)
  have e2 : z4 a b c d / 2 = z4 (a / 2 + 128 * (b % 2)) (b / 2 + 128 * (c % 2)) (c / 2 + 128 * (d % 2)) (d / 2 + 128 * 0) := by unfold z4; omega
  have e3 : (1431655765 : Int32) = nI (z4 85 85 85 85) := by decide
  rw [e1, e2, e3, z_and, zA4 (by omega) (by omega) (by omega) (by decide) (by decide) (by decide), zD1 a ha _ (by omega), zD1 b hb _ (by omega), zD1 c hc _ (by omega), zD1 d hd _ (by omega)]
  have ga := (zD1b a ha).1
  have gb := (zD1b b hb).1
  have gc := (zD1b c hc).1
  have gd := (zD1b d hd).1
  rw [pk_sub (by unfold z4; omega)]
  congr 1
  unfold zp1 z4
  omega
theorem zS2 {a b c d : Nat} (ha : a < 256) (hb : b < 256) (hc : c < 256) (hd : d < 256) : (nI (z4 a b c d) &&& 858993459) + (zu (nI (z4 a b c d)) 2 &&& 858993459) = nI (z4 (zp2 a) (zp2 b) (zp2 c) (zp2 d)) := by
  have hv : z4 a b c d < 2 ^ 32 := by unfold z4; omega
  have e1 : zu (nI (z4 a b c d)) 2 = nI (z4 a b c d / 4) := pk_ushrN hv 2 2 (by decide)
  have e2 : z4 a b c d / 4 = z4 (a / 4 + 64 * (b % 4)) (b / 4 + 64 * (c % 4)) (c / 4 + 64 * (d % 4)) (d / 4 + 64 * 0) := by unfold z4; omega
  have e3 : (858993459 : Int32) = nI (z4 51 51 51 51) := by decide
  rw [e1, e2, e3, z_and, z_and, zA4 ha hb hc (by decide) (by decide) (by decide), zA4 (by omega) (by omega) (by omega) (by decide) (by decide) (by decide), zD2 a ha _ (by omega), zD2 b hb _ (by omega), zD2 c hc _ (by omega), zD2 d hd _ (by omega), nI_add]
  congr 1
  unfold zp2 z4
  omega
theorem zS3b {u v w x a b c d : Nat} (hu : u < 69) (hv : v < 69) (hw : w < 69) (hx : x < 69) (gv : v % 16 < 5) (gw : w % 16 < 5) (gx : x % 16 < 5) (a4 : (u + u / 16 + 16 * (v % 16)) &&& 15 = a) (b4 : (v + v / 16 + 16 * (w % 16)) &&& 15 = b) (c4 : (w + w / 16 + 16 * (x % 16)) &&& 15 = c) (d4 : (x + x / 16 + 16 * 0) &&& 15 = d) : (nI (z4 u v w x) + zu (nI (z4 u v w x)) 4) &&& 252645135 = nI (z4 a b c d) := by
  have hv2 : z4 u v w x < 2 ^ 32 := by unfold z4; omega
  have e1 : zu (nI (z4 u v w x)) 4 = nI (z4 u v w x / 16) := pk_ushrN hv2 4 4 (by decide)
  have e2 : z4 u v w x + z4 u v w x / 16 = z4 (u + u / 16 + 16 * (v % 16)) (v + v / 16 + 16 * (w % 16)) (w + w / 16 + 16 * (x % 16)) (x + x / 16 + 16 * 0) := by unfold z4; omega
  have e3 : (252645135 : Int32) = nI (z4 15 15 15 15) := by decide
  rw [e1, nI_add, e2, e3, z_and, zA4 (by omega) (by omega) (by omega) (by decide) (by decide) (by decide), a4, b4, c4, d4]
theorem zS3 {a b c d : Nat} (ha : a < 256) (hb : b < 256) (hc : c < 256) (hd : d < 256) : (nI (z4 (zp2 (zp1 a)) (zp2 (zp1 b)) (zp2 (zp1 c)) (zp2 (zp1 d))) + zu (nI (z4 (zp2 (zp1 a)) (zp2 (zp1 b)) (zp2 (zp1 c)) (zp2 (zp1 d)))) 4) &&& 252645135 = nI (z4 (zpc a) (zpc b) (zpc c) (zpc d)) :=
  zS3b (zD3 a ha).2.1 (zD3 b hb).2.1 (zD3 c hc).2.1 (zD3 d hd).2.1 (zD3 b hb).1 (zD3 c hc).1 (zD3 d hd).1 (zD4 a ha _ (zD3 b hb).1) (zD4 b hb _ (zD3 c hc).1) (zD4 c hc _ (zD3 d hd).1) (zD4 d hd 0 (by decide))
theorem zS4 {a b c d : Nat} (ha : a < 9) (hb : b < 9) (hc : c < 9) (hd : d < 9) : (nI (z4 a b c d) + zu (nI (z4 a b c d)) 8) + zu (nI (z4 a b c d) + zu (nI (z4 a b c d)) 8) 16 &&& 63 = nI (a + b + c + d) := by
  have hv : z4 a b c d < 2 ^ 28 := by unfold z4; omega
  have e1 : zu (nI (z4 a b c d)) 8 = nI (z4 a b c d / 256) := pk_ushrN (by omega) 8 8 (by decide)
  rw [e1, nI_add]
  have e2 : zu (nI (z4 a b c d + z4 a b c d / 256)) 16 = nI ((z4 a b c d + z4 a b c d / 256) / 65536) := pk_ushrN (by omega) 16 16 (by decide)
  rw [e2, nI_add, pk_andN (by omega) 6 (by decide)]
  congr 1
  have d1 : z4 a b c d / 256 = b + 256 * (c + 256 * d) := by unfold z4; omega
  rw [d1]
  have d2 : (z4 a b c d + (b + 256 * (c + 256 * d))) / 65536 = (c + d) + 256 * d := by unfold z4; omega
  rw [d2]
  have d3 : z4 a b c d + (b + 256 * (c + 256 * d)) + ((c + d) + 256 * d) = (a + b + c + d) + 64 * (4 * (b + c + d) + 1024 * (c + d) + 262144 * d) := by unfold z4; omega
  rw [d3]
  omega
theorem zc_add (B : Nat → Bool) (k n : Nat) : zc B (k + n) = zc B k + zc (fun j => B (k + j)) n := by
  induction n with
  | zero => rfl
  | succ n ih =>
    rw [show k + (n + 1) = (k + n) + 1 by omega, zc_s, zc_s, ih]
    omega
def zP (x : Int32) : Int32 :=
  let i1 := x - (zu x 1 &&& 1431655765)
  let i2 := (i1 &&& 858993459) + (zu i1 2 &&& 858993459)
  let i3 := (i2 + zu i2 4) &&& 252645135
  let i4 := i3 + zu i3 8
  let i5 := i4 + zu i4 16
  i5 &&& 63
theorem z_pop4 {a b c d : Nat} (ha : a < 256) (hb : b < 256) (hc : c < 256) (hd : d < 256) : zP (nI (z4 a b c d)) = nI (zpc a + zpc b + zpc c + zpc d) := by
  unfold zP
  dsimp only
  rw [zS1 ha hb hc hd, zS2 (zD1b a ha).2 (zD1b b hb).2 (zD1b c hc).2 (zD1b d hd).2, zS3 ha hb hc hd, zS4 (zD3 a ha).2.2 (zD3 b hb).2.2 (zD3 c hc).2.2 (zD3 d hd).2.2]
theorem z_32 (B : Nat → Bool) : zc B 32 = zc B 8 + zc (fun j => B (8 + j)) 8 + zc (fun j => B (16 + j)) 8 + zc (fun j => B (24 + j)) 8 := by
  have h1 := zc_add B 24 8
  have h2 := zc_add B 16 8
  have h3 := zc_add B 8 8
  rw [show (24 + 8 : Nat) = 32 from rfl] at h1
  rw [show (16 + 8 : Nat) = 24 from rfl] at h2
  rw [show (8 + 8 : Nat) = 16 from rfl] at h3
  rw [h1, h2, h3]
theorem z_popc (x : Int32) : zc (bt x) 32 = zpc (x.toBitVec.toNat % 256) + zpc (x.toBitVec.toNat / 256 % 256) + zpc (x.toBitVec.toNat / 65536 % 256) + zpc (x.toBitVec.toNat / 16777216) := by
  rw [z_32]
  have e0 : zc (bt x) 8 = zpc (x.toBitVec.toNat % 256) := zc_congr (fun j hj => by
    show x.toBitVec.toNat.testBit j = (x.toBitVec.toNat % 2 ^ 8).testBit j
    rw [Nat.testBit_mod_two_pow, decide_eq_true hj, Bool.true_and])
  have e1 : zc (fun j => bt x (8 + j)) 8 = zpc (x.toBitVec.toNat / 256 % 256) := zc_congr (fun j hj => by
    show x.toBitVec.toNat.testBit (8 + j) = (x.toBitVec.toNat / 2 ^ 8 % 2 ^ 8).testBit j
    rw [Nat.testBit_mod_two_pow, decide_eq_true hj, Bool.true_and, Nat.testBit_div_two_pow, Nat.add_comm])
  have e2 : zc (fun j => bt x (16 + j)) 8 = zpc (x.toBitVec.toNat / 65536 % 256) := zc_congr (fun j hj => by
    show x.toBitVec.toNat.testBit (16 + j) = (x.toBitVec.toNat / 2 ^ 16 % 2 ^ 8).testBit j
    rw [Nat.testBit_mod_two_pow, decide_eq_true hj, Bool.true_and, Nat.testBit_div_two_pow, Nat.add_comm])
  have e3 : zc (fun j => bt x (24 + j)) 8 = zpc (x.toBitVec.toNat / 16777216) := zc_congr (fun j hj => by
    show x.toBitVec.toNat.testBit (24 + j) = (x.toBitVec.toNat / 2 ^ 24).testBit j
    rw [Nat.testBit_div_two_pow, Nat.add_comm])
  rw [e0, e1, e2, e3]
theorem z_pop (x : Int32) : zP x = nI (zc (bt x) 32) := by
  have hlt : x.toBitVec.toNat < 2 ^ 32 := x.toBitVec.isLt
  have hx : nI (z4 (x.toBitVec.toNat % 256) (x.toBitVec.toNat / 256 % 256) (x.toBitVec.toNat / 65536 % 256) (x.toBitVec.toNat / 16777216)) = x := by
    rw [show z4 (x.toBitVec.toNat % 256) (x.toBitVec.toNat / 256 % 256) (x.toBitVec.toNat / 65536 % 256) (x.toBitVec.toNat / 16777216) = x.toBitVec.toNat by unfold z4; omega]
    exact (z_num x).symm
  have h := z_pop4 (a := x.toBitVec.toNat % 256) (b := x.toBitVec.toNat / 256 % 256) (c := x.toBitVec.toNat / 65536 % 256) (d := x.toBitVec.toNat / 16777216) (by omega) (by omega) (by omega) (by omega)
  rw [hx] at h
  rw [h, z_popc]
theorem z_nlz0 {x : Int32} {t v : Nat} (ht : t < 32) (ex : x = nI v) (a1 : 2 ^ t ≤ v) (a2 : v < 2 ^ (t + 1)) (c : ¬ 0 < x) : (0 : Int32) = nI (31 - t) := by
  rcases Nat.lt_or_ge t 31 with q | q
  · refine absurd ?_ c
    rw [ex, ← nI_0]
    have p1 := z_p1 t
    have p2 := z_lt31 q a2
    exact nI_lt (by omega) (by omega)
  · rw [show 31 - t = 0 by omega]
    exact nI_0.symm
theorem z_nlz1 {x : Int32} {t v : Nat} (ht : t < 32) (ex : x = nI v) (a1 : 2 ^ t ≤ v) (c : 0 < x) (hv : v < 2 ^ 32) : t < 31 := by
  rcases Nat.lt_or_ge t 31 with q | q
  · exact q
  · have e : t = 31 := by omega
    subst e
    exfalso
    rw [Int32.lt_iff_toInt_lt, ex, Int32.toInt_zero] at c
    have h : (nI v).toInt = (v : Int) - 4294967296 := by
      show (BitVec.ofNat 32 v).toInt = _
      rw [BitVec.toInt_eq_toNat_cond, BitVec.toNat_ofNat, Nat.mod_eq_of_lt hv, if_neg (by omega)]
      rfl
    omega
theorem z_ntz0 {t v : Nat} (h1 : t = 0) (h2 : v = 0) : nI v &&& nI 32 = nI t := by
  subst h1 h2
  decide
