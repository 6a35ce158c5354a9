/-! THE CLASS'S STATE: n cells, p pieces, the marks M, the start table S -/
def zCI (n p : Nat) (M S : Nat → Int32) : Prop := 1 ≤ n ∧ n ≤ 16384 ∧ zm M 0 = true ∧ (∀ j, n ≤ j → j < 16384 → zm M j = false) ∧ p = zc (zm M) n ∧ ∀ c, 32 * c < n → S c = nI (zb (zm M) (32 * c))
theorem z_beg0 {M : Nat → Int32} {c : Nat} (h0 : zm M 0 = true) (hf : M (c / 32) &&& zu (-1) (nI (31 - c % 32)) = 0) : zb (zm M) c = zb (zm M) (32 * (c / 32)) := by
  have hb := zb_le (zm M) (32 * (c / 32))
  refine zb_uniq (by omega) (Or.inr (zb_on h0 _)) (fun j h1 h2 => ?_)
  rcases Nat.lt_or_ge (32 * (c / 32)) j with q | q
  · have e : j = 32 * (c / 32) + j % 32 := by omega
    have hj : j % 32 < 32 := Nat.mod_lt _ (by decide)
    have z : bt (M (c / 32) &&& zu (-1) (nI (31 - c % 32))) (j % 32) = false := by rw [hf, b_0]
    rw [b_and, zm_lo (c % 32) (Nat.mod_lt _ (by decide)) _ hj, decide_eq_true (by omega), Bool.and_true] at z
    rw [e, zm_at M hj]
    exact z
  · exact zb_off _ j h1 q
theorem z_beg1 {M : Nat → Int32} {c t : Nat} (ht : t < 32) (h1 : bt (M (c / 32) &&& zu (-1) (nI (31 - c % 32))) t = true) (h2 : ∀ k, t < k → k < 32 → bt (M (c / 32) &&& zu (-1) (nI (31 - c % 32))) k = false) : zb (zm M) c = 32 * (c / 32) + t := by
  rw [b_and, zm_lo (c % 32) (Nat.mod_lt _ (by decide)) _ ht, Bool.and_eq_true, decide_eq_true_eq] at h1
  refine zb_uniq (by omega) (Or.inr (by rw [zm_at M ht]; exact h1.1)) (fun j h3 h4 => ?_)
  have e : j = 32 * (c / 32) + j % 32 := by omega
  have hj : j % 32 < 32 := Nat.mod_lt _ (by decide)
  have z := h2 (j % 32) (by omega) hj
  rw [b_and, zm_lo (c % 32) (Nat.mod_lt _ (by decide)) _ hj, decide_eq_true (by omega), Bool.and_true] at z
  rw [e, zm_at M hj]
  exact z
/-- the search for the next begin: nothing from k up to lo; w marks what of this card is still to be seen -/
def zI (M : Nat → Int32) (k card : Nat) (w : Int32) : Prop := ∃ lo, k ≤ lo ∧ 32 * card ≤ lo ∧ lo ≤ 32 * card + 32 ∧ (∀ j, k ≤ j → j < lo → zm M j = false) ∧ ∀ i, i < 32 → bt w i = decide (lo ≤ 32 * card + i)
theorem zI_0 (M : Nat → Int32) (k : Nat) : zI M k (k / 32) ((-1 : Int32) <<< (nI (k % 32) &&& 31)) := by
  refine ⟨k, Nat.le_refl _, by omega, by omega, fun j h1 h2 => absurd h1 (by omega), fun i hi => ?_⟩
  rw [zm_hi (k % 32) (Nat.mod_lt _ (by decide)) i hi]
  exact decide_eq_decide.mpr ⟨fun q => by omega, fun q => by omega⟩
theorem zI_cell {M : Nat → Int32} {card lo : Nat} {w : Int32} (h4 : ∀ i, i < 32 → bt w i = decide (lo ≤ 32 * card + i)) {j : Nat} (h5 : lo ≤ j) (h6 : 32 * card ≤ j) (h7 : j < 32 * card + 32) : zm M j = bt (M card &&& w) (j - 32 * card) := by
  have e : j = 32 * card + (j - 32 * card) := by omega
  have hj : j - 32 * card < 32 := by omega
  rw [b_and, h4 _ hj, decide_eq_true (by omega), Bool.and_true]
  conv => lhs; rw [e]
  rw [zm_at M hj]
theorem zI_s {M : Nat → Int32} {k card : Nat} {w : Int32} (h : zI M k card w) (hf : M card &&& w = 0) : zI M k (card + 1) (-1) := by
  obtain ⟨lo, h1, h2, h2b, h3, h4⟩ := h
  refine ⟨32 * (card + 1), by omega, by omega, by omega, fun j h5 h6 => ?_, fun i hi => ?_⟩
  · rcases Nat.lt_or_ge j lo with z | z
    · exact h3 j h5 z
    · rw [zI_cell (M := M) h4 z (by omega) (by omega), hf, b_0]
  · rw [b_m1 i hi, decide_eq_true (by omega)]
theorem zI_hit {M : Nat → Int32} {n k card t : Nat} {w : Int32} (h : zI M k card w) (hk : k ≤ n) (hc : card < 512) (hM : ∀ j, n ≤ j → j < 16384 → zm M j = false) (ht : t < 32) (h8 : bt (M card &&& w) t = true) (h9 : ∀ i, i < t → bt (M card &&& w) i = false) : zn (zm M) n k = 32 * card + t ∧ 32 * card + t < n := by
  obtain ⟨lo, h1, h2, h2b, h3, h4⟩ := h
  have hw : lo ≤ 32 * card + t := by
    have z := h8
    rw [b_and, h4 t ht, Bool.and_eq_true, decide_eq_true_eq] at z
    exact z.2
  have hz : zm M (32 * card + t) = true := by
    rw [zI_cell (M := M) h4 hw (by omega) (by omega), show 32 * card + t - 32 * card = t by omega]
    exact h8
  have hn : 32 * card + t < n := by
    rcases Nat.lt_or_ge (32 * card + t) n with q | q
    · exact q
    · rw [hM _ q (by omega)] at hz; cases hz
  refine ⟨zn_uniq (by omega) (by omega) (Or.inr hz) (fun j h5 h6 => ?_), hn⟩
  rcases Nat.lt_or_ge j lo with z | z
  · exact h3 j h5 z
  · rw [zI_cell (M := M) h4 z (by omega) (by omega)]
    exact h9 _ (by omega)
theorem zI_end {M : Nat → Int32} {n k card : Nat} {w : Int32} (h : zI M k card w) (hk : k ≤ n) (hc : (n + 31) / 32 ≤ card) : zn (zm M) n k = n := by
  obtain ⟨lo, h1, h2, h2b, h3, h4⟩ := h
  exact zn_uniq hk (Nat.le_refl _) (Or.inl rfl) (fun j h5 h6 => h3 j h5 (by omega))
/-- what tellStarts leaves -/
def zT (S : Nat → Int32) (a b : Nat) (S' : Nat → Int32) : Prop := ∀ j, j < 512 → S' j = if a ≤ 32 * j ∧ 32 * j < b then nI a else S j
theorem zT_in {S S' : Nat → Int32} {a b j : Nat} (h : zT S a b S') (hj : j < 512) (h1 : a ≤ 32 * j) (h2 : 32 * j < b) : S' j = nI a := by rw [h j hj, if_pos ⟨h1, h2⟩]
theorem zT_out {S S' : Nat → Int32} {a b j : Nat} (h : zT S a b S') (hj : j < 512) (h1 : 32 * j < a ∨ b ≤ 32 * j) : S' j = S j := by rw [h j hj, if_neg (by omega)]
/-- starts behind a change: a begin at a, none up to b, where one begins or the row ends; ahead of a and from b on as before -/
theorem z_starts {n p a b : Nat} {M S M' S' : Nat → Int32} (h : zCI n p M S) (hab : a < b) (hbn : b ≤ n) (ha : zm M' a = true) (hno : ∀ j, a < j → j < b → zm M' j = false) (hb : b = n ∨ (zm M b = true)) (hlo : ∀ j, j < a → zm M' j = zm M j) (hhi : ∀ j, b ≤ j → j < 16384 → zm M' j = zm M j) (hT : zT S a b S') : ∀ c, 32 * c < n → S' c = nI (zb (zm M') (32 * c)) := by
  obtain ⟨i1, i2, i3, i4, i5, i6⟩ := h
  intro c hc
  rcases Nat.lt_or_ge (32 * c) a with q | q
  · rw [zT_out hT (by omega) (Or.inl q), i6 c hc, zb_congr (B := zm M') (C := zm M) (fun j hj => hlo j (by omega))]
  · rcases Nat.lt_or_ge (32 * c) b with z | z
    · rw [zT_in hT (by omega) q z, zb_uniq q (Or.inr ha) (fun j h1 h2 => hno j h1 (by omega))]
    · rw [zT_out hT (by omega) (Or.inr z), i6 c hc]
      have hzb : zm M b = true := by
        rcases hb with hb | hb
        · omega
        · exact hb
      have hge : b ≤ zb (zm M) (32 * c) := by
        rcases Nat.lt_or_ge (zb (zm M) (32 * c)) b with w | w
        · rw [zb_off (B := zm M) (32 * c) b w z] at hzb; cases hzb
        · exact w
      have hle := zb_le (zm M) (32 * c)
      congr 1
      refine (zb_uniq hle (Or.inr ?_) (fun j h1 h2 => ?_)).symm
      · rw [hhi _ hge (by omega)]
        exact zb_on i3 _
      · rw [hhi j (by omega) (by omega)]
        exact zb_off _ j h1 h2
/-- a cut at c, where none begins -/
theorem z_cut {n p c : Nat} {M S M' S' : Nat → Int32} (h : zCI n p M S) (hc : c < n) (hz : zb (zm M) c ≠ c) (hM : ∀ j, zm M' j = (zm M j || decide (j = c))) (hT : zT S c (zn (zm M') n (c + 1)) S') : zCI n (p + 1) M' S' := by
  have hs := h
  obtain ⟨i1, i2, i3, i4, i5, i6⟩ := h
  have hoff : zm M c = false := by
    cases hb : zm M c
    · rfl
    · exact absurd (zb_uniq (Nat.le_refl c) (Or.inr hb) (fun j h1 h2 => absurd h1 (by omega))) hz
  have hon : zm M' c = true := by rw [hM, decide_eq_true rfl, Bool.or_true]
  have hne : ∀ j, j ≠ c → zm M' j = zm M j := fun j hj => by rw [hM, decide_eq_false hj, Bool.or_false]
  have g1 := zn_ge (zm M') n (c + 1)
  have g2 : zn (zm M') n (c + 1) ≤ n := zn_le (by omega)
  refine ⟨i1, i2, by rw [hM, i3, Bool.true_or], fun j h1 h2 => by rw [hne j (by omega)]; exact i4 j h1 h2, ?_, ?_⟩
  · rw [i5]
    exact (zc_set hc hoff hon (fun j _ hj => hne j hj)).symm
  · refine z_starts hs (by omega) g2 hon (fun j h1 h2 => zn_off j (by omega) h2) ?_ (fun j hj => hne j (by omega)) (fun j hj _ => hne j (by omega)) hT
    rcases Nat.lt_or_ge (zn (zm M') n (c + 1)) n with q | q
    · have := zn_on q
      rw [hne _ (by omega)] at this
      exact Or.inr this
    · exact Or.inl (by omega)
/-- what merge leaves: the begins between a and b are gone -/
def zG (M M' : Nat → Int32) (a b : Nat) : Prop := ∀ j, j < 16384 → zm M' j = (zm M j && !decide (a < j ∧ j < b))
theorem zG_in {M M' : Nat → Int32} {a b j : Nat} (h : zG M M' a b) (hj : j < 16384) (h1 : a < j) (h2 : j < b) : zm M' j = false := by rw [h j hj, decide_eq_true ⟨h1, h2⟩, Bool.not_true, Bool.and_false]
theorem zG_out {M M' : Nat → Int32} {a b j : Nat} (h : zG M M' a b) (hj : j < 16384) (h1 : j ≤ a ∨ b ≤ j) : zm M' j = zm M j := by rw [h j hj, decide_eq_false (by omega), Bool.not_false, Bool.and_true]
theorem z_merge {n p a b : Nat} {M S M' S' : Nat → Int32} (h : zCI n p M S) (hab : a < b) (hbn : b ≤ n) (ha : zm M a = true) (hb : b = n ∨ zm M b = true) (hG : zG M M' a b) (hT : zT S a b S') : zCI n (zc (zm M') n) M' S' := by
  have hs := h
  obtain ⟨i1, i2, i3, i4, i5, i6⟩ := h
  refine ⟨i1, i2, ?_, ?_, rfl, ?_⟩
  · rw [zG_out hG (by omega) (Or.inl (by omega))]; exact i3
  · intro j h1 h2
    rw [zG_out hG h2 (Or.inr (by omega))]
    exact i4 j h1 h2
  · exact z_starts hs hab hbn (by rw [zG_out hG (by omega) (Or.inl (Nat.le_refl _))]; exact ha) (fun j h1 h2 => zG_in hG (by omega) h1 h2) hb (fun j hj => zG_out hG (by omega) (Or.inl (by omega))) (fun j h1 h2 => zG_out hG h2 (Or.inr h1)) hT
/-- merge's loop: up to e all is cleared -/
theorem zG_0 {M : Nat → Int32} {n a : Nat} (hn : n ≤ 16384) (ha : a < n) (h4 : ∀ j, n ≤ j → j < 16384 → zm M j = false) : zG M M a (zn (zm M) n (a + 1)) := by
  intro j hj
  by_cases q : a < j ∧ j < zn (zm M) n (a + 1)
  · rw [decide_eq_true q, Bool.not_true, Bool.and_false]
    exact zn_off j (by omega) q.2
  · rw [decide_eq_false q, Bool.not_false, Bool.and_true]
theorem zG_s {M M1 M2 : Nat → Int32} {n a e : Nat} (hn : n ≤ 16384) (hG : zG M M1 a e) (hae : a < e) (hen : e < n) (hM : ∀ j, zm M2 j = (zm M1 j && !decide (j = e))) : zG M M2 a (zn (zm M2) n (e + 1)) := by
  intro j hj
  have g1 := zn_ge (zm M2) n (e + 1)
  by_cases q : a < j ∧ j < zn (zm M2) n (e + 1)
  · rw [decide_eq_true q, Bool.not_true, Bool.and_false]
    rcases Nat.lt_trichotomy j e with z | z | z
    · rw [hM, zG_in hG hj q.1 z, Bool.false_and]
    · rw [hM, decide_eq_true z, Bool.not_true, Bool.and_false]
    · exact zn_off j (by omega) q.2
  · rw [decide_eq_false q, Bool.not_false, Bool.and_true, hM, decide_eq_false (by omega), Bool.not_false, Bool.and_true]
    exact zG_out hG hj (by omega)
theorem zG_next {M M1 M2 : Nat → Int32} {n a b e : Nat} (hn : n ≤ 16384) (hG : zG M M1 a e) (hae : a < e) (heb : e < b) (hbn : b ≤ n) (hb : b = n ∨ zm M b = true) (hM : ∀ j, zm M2 j = (zm M1 j && !decide (j = e))) : zn (zm M2) n (e + 1) ≤ b := by
  rcases Nat.lt_or_ge b (zn (zm M2) n (e + 1)) with q | q
  · have g2 : zn (zm M2) n (e + 1) ≤ n := zn_le (by omega)
    have z := zn_off (B := zm M2) (n := n) (k := e + 1) b (by omega) q
    rw [hM, decide_eq_false (by omega), Bool.not_false, Bool.and_true, zG_out hG (by omega) (Or.inr (by omega))] at z
    rcases hb with hb | hb
    · omega
    · rw [z] at hb; cases hb
  · exact q
theorem z_nxo {B : Nat → Bool} {n k : Nat} (h : k ≤ n) : zn B n k = n ∨ B (zn B n k) = true := by
  rcases Nat.lt_or_ge (zn B n k) n with q | q
  · exact Or.inr (zn_on q)
  · exact Or.inl (by have := zn_le (B := B) h; omega)
theorem z_nxb {B : Nat → Bool} {n a b : Nat} (h1 : a < b) (h2 : b ≤ n) (h3 : b = n ∨ B b = true) : zn B n (a + 1) ≤ b := by
  have g := zn_le (B := B) (n := n) (k := a + 1) (by omega)
  rcases Nat.lt_or_ge b (zn B n (a + 1)) with q | q
  · have z := zn_off (B := B) (n := n) (k := a + 1) b (by omega) q
    rcases h3 with h3 | h3
    · omega
    · rw [z] at h3; cases h3
  · exact q
theorem zc_0 {B : Nat → Bool} {a b : Nat} (hab : a ≤ b) (h : ∀ j, a ≤ j → j < b → B j = false) : zc B b = zc B a := by
  induction b with
  | zero => have e : a = 0 := by omega
            rw [e]
  | succ b ih =>
    rcases Nat.lt_or_ge b a with q | q
    · have e : a = b + 1 := by omega
      rw [e]
    · rw [zc_s, h b q (by omega), ih q (fun j h1 h2 => h j h1 (by omega))]
      simp
theorem zc_next {B : Nat → Bool} {n k : Nat} (h : B k = true) (hk : k < n) : zc B (zn B n (k + 1)) = zc B k + 1 := by
  rw [zc_0 (zn_ge B n (k + 1)) (fun j h1 h2 => zn_off j h1 h2), zc_s, if_pos h]
theorem z_lay {k : Nat} {M1 S1 : Nat → Int32} (h1 : 1 ≤ k) (h2 : k ≤ 16384) (hM : ∀ j, j < 512 → M1 j = nI 0) (hS : ∀ j, j < 512 → S1 j = nI 0) : zCI k 1 (upd M1 0 (nI 1)) S1 ∧ ∀ j, j < 16384 → zm (upd M1 0 (nI 1)) j = decide (j = 0) := by
  have key : ∀ j, j < 16384 → zm (upd M1 0 (nI 1)) j = decide (j = 0) := by
    intro j hj
    unfold zm
    by_cases q : j / 32 = 0
    · rw [q, pk_us]
      have e : j % 32 = j := by omega
      rw [e]
      exact (by decide +kernel : ∀ i, i < 32 → bt (nI 1) i = decide (i = 0)) j (by omega)
    · rw [pk_un q, hM _ (by omega), decide_eq_false (by omega)]
      exact b_0 _
  refine ⟨⟨h1, h2, key 0 (by decide), fun j a b => by rw [key j b, decide_eq_false (by omega)], ?_, fun c hc => ?_⟩, key⟩
  · rw [zc_0 (B := zm (upd M1 0 (nI 1))) (a := 1) h1 (fun j a b => by rw [key j (by omega), decide_eq_false (by omega)]), zc_s, if_pos (show zm (upd M1 0 (nI 1)) 0 = true from key 0 (by decide))]
    rfl
  · rw [hS c (by omega), zb_uniq (Nat.zero_le _) (Or.inl rfl) (fun j a b => by rw [key j (by omega), decide_eq_false (by omega)])]
/-- the sizes of the pieces from k on, folded -/
def zF (g : Nat → Nat → Nat) (B : Nat → Bool) (n : Nat) : Nat → Nat → Nat → Nat
  | 0, _, a => a
  | f + 1, k, a => zF g B n f (zn B n (k + 1)) (g a (zn B n (k + 1) - k))
theorem z_max {a b : Nat} (ha : a < 2147483648) (hb : b < 2147483648) : (if nI a < nI b then nI b else nI a) = nI (max a b) := by
  rcases Nat.lt_or_ge a b with q | q
  · rw [if_pos (nI_lt q hb), Nat.max_eq_right (by omega)]
  · rw [if_neg (nI_nlt q ha), Nat.max_eq_left q]
theorem z_min {a b : Nat} (ha : a < 2147483648) (hb : b < 2147483648) : (if nI b < nI a then nI b else nI a) = nI (min a b) := by
  rcases Nat.lt_or_ge b a with q | q
  · rw [if_pos (nI_lt q ha), Nat.min_eq_right (by omega)]
  · rw [if_neg (nI_nlt q hb), Nat.min_eq_left q]
theorem z_inof {x : Int32} {n : Nat} (h1 : ¬ x < 0) (h2 : x < nI n) (hn : n < 2147483648) : ∃ k, k < n ∧ x = nI k := by
  obtain ⟨j, hj, rfl⟩ := nI_of h1
  exact ⟨j, (nI_ltI hj hn).mp h2, rfl⟩
theorem z_join0 {M : Nat → Int32} {n k : Nat} (h : ¬ zn (zm M) n k < n) (i4 : ∀ j, n ≤ j → j < 16384 → zm M j = false) : ∀ j, j < 16384 → zm M j = (zm M j && !decide (j = zn (zm M) n k)) := by
  intro j hj
  by_cases q : j = zn (zm M) n k
  · rw [i4 j (by omega) hj, Bool.false_and]
  · rw [decide_eq_false q, Bool.not_false, Bool.and_true]
theorem z_join1 {M M' : Nat → Int32} {n k : Nat} (hk : k < n) (h : zG M M' (zb (zm M) k) (zn (zm M) n (zn (zm M) n (k + 1) + 1))) : ∀ j, j < 16384 → zm M' j = (zm M j && !decide (j = zn (zm M) n (k + 1))) := by
  intro j hj
  have a1 := zb_le (zm M) k
  have a2 := zn_ge (zm M) n (k + 1)
  have a3 := zn_ge (zm M) n (zn (zm M) n (k + 1) + 1)
  rw [h j hj]
  by_cases q : j = zn (zm M) n (k + 1)
  · rw [decide_eq_true q, decide_eq_true (by omega)]
  · rw [decide_eq_false q]
    by_cases z : zb (zm M) k < j ∧ j < zn (zm M) n (zn (zm M) n (k + 1) + 1)
    · rw [decide_eq_true z]
      have e : zm M j = false := by
        rcases Nat.lt_or_ge k j with w | w
        · rcases Nat.lt_or_ge j (zn (zm M) n (k + 1)) with v | v
          · exact zn_off j (by omega) v
          · exact zn_off (k := zn (zm M) n (k + 1) + 1) j (by omega) z.2
        · exact zb_off k j z.1 w
      rw [e, Bool.false_and, Bool.false_and]
    · rw [decide_eq_false z]
theorem z_make0 {M M1 M' : Nat → Int32} {n a b : Nat} (hb : b = n) (h1 : ∀ j, zm M1 j = (zm M j || decide (j = a))) (h : zG M1 M' a b) : ∀ j, j < 16384 → zm M' j = ((zm M j || decide (j = a) || (decide (j = b) && decide (b < n))) && !decide (a < j ∧ j < b)) := by
  intro j hj
  rw [h j hj, h1, decide_eq_false (show ¬ b < n by omega), Bool.and_false, Bool.or_false]
theorem z_make1 {M M1 M2 M' : Nat → Int32} {n a b : Nat} (hb : b < n) (h1 : ∀ j, zm M1 j = (zm M j || decide (j = a))) (h2 : ∀ j, zm M2 j = (zm M1 j || decide (j = b))) (h : zG M2 M' a b) : ∀ j, j < 16384 → zm M' j = ((zm M j || decide (j = a) || (decide (j = b) && decide (b < n))) && !decide (a < j ∧ j < b)) := by
  intro j hj
  rw [h j hj, h2, h1, decide_eq_true hb, Bool.and_true]
theorem z_mkof {z : Int32} {k n : Nat} (h1 : ¬ z ≤ nI k) (h2 : z ≤ nI n) (hn : k < n ∧ n < 2147483648) : ∃ b, k < b ∧ b ≤ n ∧ z = nI b := by
  have h0 : ¬ z < 0 := by
    intro q
    apply h1
    rw [Int32.le_iff_toInt_le, nI_toInt (by omega)]
    rw [Int32.lt_iff_toInt_lt, Int32.toInt_zero] at q
    omega
  obtain ⟨j, hj, rfl⟩ := nI_of h0
  refine ⟨j, ?_, (nI_leI hj hn.2).mp h2, rfl⟩
  rcases Nat.lt_or_ge k j with q | q
  · exact q
  · exact absurd (nI_le q (by omega)) h1
theorem z_spof {x : Int32} (h1 : ¬ x < nI 1) (h2 : x ≤ nI 16384) : ∃ k, 1 ≤ k ∧ k ≤ 16384 ∧ x = nI k := by
  have h0 : ¬ x < 0 := by
    intro q
    apply h1
    rw [Int32.lt_iff_toInt_lt, nI_toInt (by omega)]
    rw [Int32.lt_iff_toInt_lt, Int32.toInt_zero] at q
    omega
  obtain ⟨j, hj, rfl⟩ := nI_of h0
  refine ⟨j, ?_, (nI_leI hj (by omega)).mp h2, rfl⟩
  rcases Nat.lt_or_ge j 1 with q | q
  · exact absurd (nI_lt q (by omega)) h1
  · exact q
theorem z_sw5 (x : Int32) : x = nI 0 ∨ x = nI 1 ∨ x = nI 2 ∨ x = nI 3 ∨ x = nI 4 ∨ (x.toInt < 0 ∨ 4 < x.toInt) := by
  have key : ∀ k : Nat, k < 5 → x.toInt = k → x = nI k := fun k hk h => Int32.toInt_inj.mp (by rw [h, nI_toInt (by omega)])
  by_cases h : x.toInt < 0 ∨ 4 < x.toInt
  · exact Or.inr (Or.inr (Or.inr (Or.inr (Or.inr h))))
  · have e : x.toInt = 0 ∨ x.toInt = 1 ∨ x.toInt = 2 ∨ x.toInt = 3 ∨ x.toInt = 4 := by omega
    rcases e with e | e | e | e | e
    · exact Or.inl (key 0 (by omega) e)
    · exact Or.inr (Or.inl (key 1 (by omega) e))
    · exact Or.inr (Or.inr (Or.inl (key 2 (by omega) e)))
    · exact Or.inr (Or.inr (Or.inr (Or.inl (key 3 (by omega) e))))
    · exact Or.inr (Or.inr (Or.inr (Or.inr (Or.inl (key 4 (by omega) e)))))
theorem z_sw5n {x : Int32} (h : x.toInt < 0 ∨ 4 < x.toInt) : ¬ (x = nI 0 ∨ x = nI 1 ∨ x = nI 2 ∨ x = nI 3 ∨ x = nI 4) := by
  rintro (rfl | rfl | rfl | rfl | rfl) <;> revert h <;> decide
