/-! THE TIE: class and reference hold the same row, and answer alike -/
def zR (n : Nat) (B G : Nat → Bool) : Prop := (∀ j, j < n → G j = B j) ∧ G n = true
abbrev zTT : Type := (Nat × Nat × (Nat → Int32) × (Nat → Int32)) × (Nat → Int64)
def zTie (n : Nat) (u : zTT) (b : Bool) (G : Nat → Bool) (kv r : Int32) : Prop := zCI n u.1.2.1 u.1.2.2.1 u.1.2.2.2 ∧ u.1.1 = n ∧ zR n (zm u.1.2.2.1) G ∧ ((kv = nI 0 ∧ b = true ∧ u.2 0 = r.toInt64) ∨ (kv = nI 1 ∧ b = false))
theorem zTie_ro {nn pp : Nat} {M S : Nat → Int32} {G G2 : Nat → Bool} {fo : Nat → Int64} {u : zTT} {b : Bool} {kv r : Int32} {P : Int32 → Prop} {Qm Bad : Prop} (g0 : zCI nn pp M S) (gR : zR nn (zm M) G)
    (hc : (kv = nI 0 ∧ ∃ rr : Int32, u.2 = vp_updL fo 0 rr.toInt64 ∧ u.1 = (nn, pp, M, S) ∧ P rr) ∨ (kv = nI 1 ∧ Bad ∧ u = ((nn, pp, M, S), fo)))
    (hm : (b = true ∧ Qm) ∨ (b = false ∧ Bad ∧ G2 = G)) (hQ : Qm → G2 = G ∧ (∀ rr, P rr → rr = r) ∧ ¬ Bad) (hP : ∀ rr, P rr → ¬ Bad) : zTie nn u b G2 kv r := by
  rcases hc with ⟨h1, rr, h2, h3, h4⟩ | ⟨h1, h2, h3⟩
  · rcases hm with ⟨m1, m2⟩ | ⟨m1, m2, m3⟩
    · obtain ⟨q1, q2, q3⟩ := hQ m2
      refine ⟨by rw [h3]; exact g0, by rw [h3], by rw [h3, q1]; exact gR, Or.inl ⟨h1, m1, ?_⟩⟩
      rw [h2, pk_uLs, q2 rr h4]
    · exact absurd m2 (hP rr h4)
  · rcases hm with ⟨m1, m2⟩ | ⟨m1, m2, m3⟩
    · exact absurd h2 (hQ m2).2.2
    · exact ⟨by rw [h3]; exact g0, by rw [h3], by rw [h3, m3]; exact gR, Or.inr ⟨h1, m1⟩⟩
theorem zn_congr2 {B C : Nat → Bool} {n k : Nat} (h : ∀ j, j < n → B j = C j) : zn B n k = zn C n k := by
  rcases Nat.lt_or_ge n k with q | q
  · unfold zn
    rw [show n - k = 0 by omega]
    rfl
  · exact zn_congr q (fun j _ hj => h j hj)
theorem zF_congr {g : Nat → Nat → Nat} {B C : Nat → Bool} {n : Nat} (h : ∀ j, j < n → B j = C j) : ∀ f k a, zF g B n f k a = zF g C n f k a := by
  intro f
  induction f with
  | zero => intro k a; rfl
  | succ f ih =>
    intro k a
    show zF g B n f (zn B n (k + 1)) (g a (zn B n (k + 1) - k)) = zF g C n f (zn C n (k + 1)) (g a (zn C n (k + 1) - k))
    rw [zn_congr2 h, ih]
theorem z_kk {n k k' : Nat} {x : Int32} (hn : n ≤ 16384) (h1 : k < n) (h2 : x = nI k) (h3 : k' < n) (h4 : x = nI k') : k = k' := (nI_eq (by omega) (by omega)).mp (h2.symm.trans h4)
section TIE
variable {nn pp : Nat} {M S : Nat → Int32} {G G2 : Nat → Bool} {fo : Nat → Int64} {u : zTT} {b : Bool} {kv r x z : Int32}
theorem tie_begin (g0 : zCI nn pp M S) (gR : zR nn (zm M) G)
    (hc : (kv = nI 0 ∧ ∃ rr : Int32, u.2 = vp_updL fo 0 rr.toInt64 ∧ u.1 = (nn, pp, M, S) ∧ ∃ k, k < nn ∧ x = nI k ∧ rr = nI (zb (zm M) k)) ∨ (kv = nI 1 ∧ (¬ ∃ k, k < nn ∧ x = nI k) ∧ u = ((nn, pp, M, S), fo)))
    (hm : (b = true ∧ ∃ k, k < nn ∧ x = nI k ∧ r = nI (zb G k) ∧ G2 = G) ∨ (b = false ∧ (¬ ∃ k, k < nn ∧ x = nI k) ∧ G2 = G)) : zTie nn u b G2 kv r := by
  refine zTie_ro g0 gR hc hm (fun ⟨k, k1, k2, k3, k4⟩ => ⟨k4, fun rr ⟨k', q1, q2, q3⟩ => ?_, fun hb => hb ⟨k, k1, k2⟩⟩) (fun rr ⟨k, k1, k2, _⟩ hb => hb ⟨k, k1, k2⟩)
  have e := z_kk g0.2.1 k1 k2 q1 q2
  subst e
  rw [q3, k3, zb_congr (B := G) (C := zm M) (fun j hj => gR.1 j (by omega))]
theorem tie_size (g0 : zCI nn pp M S) (gR : zR nn (zm M) G)
    (hc : (kv = nI 0 ∧ ∃ rr : Int32, u.2 = vp_updL fo 0 rr.toInt64 ∧ u.1 = (nn, pp, M, S) ∧ ∃ k, k < nn ∧ x = nI k ∧ rr = nI (zn (zm M) nn (k + 1) - zb (zm M) k)) ∨ (kv = nI 1 ∧ (¬ ∃ k, k < nn ∧ x = nI k) ∧ u = ((nn, pp, M, S), fo)))
    (hm : (b = true ∧ ∃ k, k < nn ∧ x = nI k ∧ r = nI (zn G nn (k + 1) - zb G k) ∧ G2 = G) ∨ (b = false ∧ (¬ ∃ k, k < nn ∧ x = nI k) ∧ G2 = G)) : zTie nn u b G2 kv r := by
  refine zTie_ro g0 gR hc hm (fun ⟨k, k1, k2, k3, k4⟩ => ⟨k4, fun rr ⟨k', q1, q2, q3⟩ => ?_, fun hb => hb ⟨k, k1, k2⟩⟩) (fun rr ⟨k, k1, k2, _⟩ hb => hb ⟨k, k1, k2⟩)
  have e := z_kk g0.2.1 k1 k2 q1 q2
  subst e
  rw [q3, k3, zb_congr (B := G) (C := zm M) (fun j hj => gR.1 j (by omega)), zn_congr2 (B := G) (C := zm M) gR.1]
theorem tie_start (g0 : zCI nn pp M S) (gR : zR nn (zm M) G)
    (hc : (kv = nI 0 ∧ ∃ rr : Int32, u.2 = vp_updL fo 0 rr.toInt64 ∧ u.1 = (nn, pp, M, S) ∧ ∃ k, k < (nn + 31) / 32 ∧ x = nI k ∧ rr = nI (zb (zm M) (32 * k))) ∨ (kv = nI 1 ∧ (¬ ∃ k, k < (nn + 31) / 32 ∧ x = nI k) ∧ u = ((nn, pp, M, S), fo)))
    (hm : (b = true ∧ ∃ k, k < (nn + 31) / 32 ∧ x = nI k ∧ r = nI (zb G (32 * k)) ∧ G2 = G) ∨ (b = false ∧ (¬ ∃ k, k < (nn + 31) / 32 ∧ x = nI k) ∧ G2 = G)) : zTie nn u b G2 kv r := by
  have hn := g0.2.1
  refine zTie_ro g0 gR hc hm (fun ⟨k, k1, k2, k3, k4⟩ => ⟨k4, fun rr ⟨k', q1, q2, q3⟩ => ?_, fun hb => hb ⟨k, k1, k2⟩⟩) (fun rr ⟨k, k1, k2, _⟩ hb => hb ⟨k, k1, k2⟩)
  have e := z_kk (n := (nn + 31) / 32) (by omega) k1 k2 q1 q2
  subst e
  rw [q3, k3, zb_congr (B := G) (C := zm M) (fun j hj => gR.1 j (by omega))]
theorem tie_begins (g0 : zCI nn pp M S) (gR : zR nn (zm M) G)
    (hc : (kv = nI 0 ∧ ∃ rr : Int32, u.2 = vp_updL fo 0 rr.toInt64 ∧ u.1 = (nn, pp, M, S) ∧ ∃ k, k < (nn + 31) / 32 ∧ x = nI k ∧ rr = nI (zc (bt (M k)) 32)) ∨ (kv = nI 1 ∧ (¬ ∃ k, k < (nn + 31) / 32 ∧ x = nI k) ∧ u = ((nn, pp, M, S), fo)))
    (hm : (b = true ∧ ∃ k, k < (nn + 31) / 32 ∧ x = nI k ∧ r = nI (zc (fun j => G (32 * k + j)) (min 32 (nn - 32 * k))) ∧ G2 = G) ∨ (b = false ∧ (¬ ∃ k, k < (nn + 31) / 32 ∧ x = nI k) ∧ G2 = G)) : zTie nn u b G2 kv r := by
  have hn := g0.2.1
  refine zTie_ro g0 gR hc hm (fun ⟨k, k1, k2, k3, k4⟩ => ⟨k4, fun rr ⟨k', q1, q2, q3⟩ => ?_, fun hb => hb ⟨k, k1, k2⟩⟩) (fun rr ⟨k, k1, k2, _⟩ hb => hb ⟨k, k1, k2⟩)
  have e := z_kk (n := (nn + 31) / 32) (by omega) k1 k2 q1 q2
  subst e
  rw [q3, k3]
  congr 1
  rw [zc_congr (B := bt (M k)) (C := fun j => zm M (32 * k + j)) (n := 32) (fun j hj => (zm_at M hj).symm)]
  rw [zc_0 (B := fun j => zm M (32 * k + j)) (a := min 32 (nn - 32 * k)) (b := 32) (by omega) (fun j h1 h2 => g0.2.2.2.1 (32 * k + j) (by omega) (by omega))]
  exact zc_congr (fun j hj => (gR.1 (32 * k + j) (by omega)).symm)
theorem tie_count (g0 : zCI nn pp M S) (gR : zR nn (zm M) G)
    (hc : (kv = nI 0 ∧ ∃ rr : Int32, u.2 = vp_updL fo 0 rr.toInt64 ∧ u.1 = (nn, pp, M, S) ∧ ((x = nI 0 ∧ rr = nI (nn)) ∨ (x = nI 1 ∧ rr = nI ((nn + 31) / 32)) ∨ (x = nI 2 ∧ rr = nI (pp)) ∨ (x = nI 3 ∧ rr = nI (zF max (zm M) nn (pp - 1) (zn (zm M) nn 1) (zn (zm M) nn 1))) ∨ (x = nI 4 ∧ rr = nI (zF min (zm M) nn (pp - 1) (zn (zm M) nn 1) (zn (zm M) nn 1))))) ∨ (kv = nI 1 ∧ (¬ (x = nI 0 ∨ x = nI 1 ∨ x = nI 2 ∨ x = nI 3 ∨ x = nI 4)) ∧ u = ((nn, pp, M, S), fo)))
    (hm : (b = true ∧ ((x = nI 0 ∧ r = nI (nn)) ∨ (x = nI 1 ∧ r = nI ((nn + 31) / 32)) ∨ (x = nI 2 ∧ r = nI (zc G nn)) ∨ (x = nI 3 ∧ r = nI (zF max G nn (zc G nn) 0 0)) ∨ (x = nI 4 ∧ r = nI (zF min G nn (zc G nn) 0 16384))) ∧ G2 = G) ∨ (b = false ∧ (¬ (x = nI 0 ∨ x = nI 1 ∨ x = nI 2 ∨ x = nI 3 ∨ x = nI 4)) ∧ G2 = G)) : zTie nn u b G2 kv r := by
  obtain ⟨i1, i2, i3, i4, i5, i6⟩ := id g0
  have ez : zc G nn = pp := by rw [i5]; exact zc_congr gR.1
  have hp1 : 1 ≤ pp := by rw [i5]; exact zc_pos (show 0 < nn by omega) i3
  have ey : zn (zm M) nn 1 ≤ nn := zn_le (by omega)
  have emx : zF max G nn (zc G nn) 0 0 = zF max (zm M) nn (pp - 1) (zn (zm M) nn 1) (zn (zm M) nn 1) := by
    rw [ez, zF_congr (B := G) (C := zm M) gR.1]
    conv => lhs; rw [show pp = (pp - 1) + 1 by omega]
    show zF max (zm M) nn (pp - 1) (zn (zm M) nn (0 + 1)) (max 0 (zn (zm M) nn (0 + 1) - 0)) = _
    rw [show max 0 (zn (zm M) nn (0 + 1) - 0) = zn (zm M) nn 1 from Nat.zero_max _]
  have emn : zF min G nn (zc G nn) 0 16384 = zF min (zm M) nn (pp - 1) (zn (zm M) nn 1) (zn (zm M) nn 1) := by
    rw [ez, zF_congr (B := G) (C := zm M) gR.1]
    conv => lhs; rw [show pp = (pp - 1) + 1 by omega]
    show zF min (zm M) nn (pp - 1) (zn (zm M) nn (0 + 1)) (min 16384 (zn (zm M) nn (0 + 1) - 0)) = _
    rw [show min 16384 (zn (zm M) nn (0 + 1) - 0) = zn (zm M) nn 1 from Nat.min_eq_right (show zn (zm M) nn 1 ≤ 16384 by omega)]
  have ne : ∀ i j : Nat, i < 5 → j < 5 → x = nI i → x = nI j → i = j := fun i j hi hj a c => (nI_eq (by omega) (by omega)).mp (a.symm.trans c)
  refine zTie_ro (Qm := _ ∧ _) g0 gR hc hm (fun ⟨hq, k4⟩ => ⟨k4, fun rr hp => ?_, fun hb => hb ?_⟩) (fun rr hp hb => hb ?_)
  · rw [ez] at hq
    rw [← ez, emx, emn, ez] at hq
    rcases hp with ⟨a1, a2⟩ | ⟨a1, a2⟩ | ⟨a1, a2⟩ | ⟨a1, a2⟩ | ⟨a1, a2⟩ <;> rcases hq with ⟨c1, c2⟩ | ⟨c1, c2⟩ | ⟨c1, c2⟩ | ⟨c1, c2⟩ | ⟨c1, c2⟩ <;> first | exact absurd (ne _ _ (by decide) (by decide) a1 c1) (by decide) | rw [a2, c2]
  · rcases hq with ⟨c1, c2⟩ | ⟨c1, c2⟩ | ⟨c1, c2⟩ | ⟨c1, c2⟩ | ⟨c1, c2⟩
    · exact Or.inl c1
    · exact Or.inr (Or.inl c1)
    · exact Or.inr (Or.inr (Or.inl c1))
    · exact Or.inr (Or.inr (Or.inr (Or.inl c1)))
    · exact Or.inr (Or.inr (Or.inr (Or.inr c1)))
  · rcases hp with ⟨c1, c2⟩ | ⟨c1, c2⟩ | ⟨c1, c2⟩ | ⟨c1, c2⟩ | ⟨c1, c2⟩
    · exact Or.inl c1
    · exact Or.inr (Or.inl c1)
    · exact Or.inr (Or.inr (Or.inl c1))
    · exact Or.inr (Or.inr (Or.inr (Or.inl c1)))
    · exact Or.inr (Or.inr (Or.inr (Or.inr c1)))
theorem tie_cut (g0 : zCI nn pp M S) (gR : zR nn (zm M) G)
    (hc : (kv = nI 0 ∧ ∃ rr : Int32, u.2 = vp_updL fo 0 rr.toInt64 ∧ u.1.1 = nn ∧ zCI nn u.1.2.1 u.1.2.2.1 u.1.2.2.2 ∧ ∃ k, k < nn ∧ x = nI k ∧ rr = nI (k - zb (zm M) k) ∧ ∀ j, zm u.1.2.2.1 j = (zm M j || decide (j = k))) ∨ (kv = nI 1 ∧ (¬ ∃ k, k < nn ∧ x = nI k) ∧ u = ((nn, pp, M, S), fo)))
    (hm : (b = true ∧ ∃ k, k < nn ∧ x = nI k ∧ r = nI (k - zb G k) ∧ G2 = upG G k true) ∨ (b = false ∧ (¬ ∃ k, k < nn ∧ x = nI k) ∧ G2 = G)) : zTie nn u b G2 kv r := by
  rcases hc with ⟨h1, rr, h2, h3, h4, k, k1, k2, k3, k5⟩ | ⟨h1, h2, h3⟩
  · rcases hm with ⟨m1, k', q1, q2, q3, q4⟩ | ⟨m1, m2, m3⟩
    · have e := z_kk g0.2.1 k1 k2 q1 q2
      subst e
      refine ⟨h4, h3, ⟨fun j hj => ?_, ?_⟩, Or.inl ⟨h1, m1, ?_⟩⟩
      · rw [q4, k5]
        by_cases z : j = k
        · rw [z, upG_eq, decide_eq_true rfl, Bool.or_true]
        · rw [upG_ne z, gR.1 j hj, decide_eq_false z, Bool.or_false]
      · rw [q4, upG_ne (by omega)]; exact gR.2
      · rw [h2, pk_uLs, k3, q3, zb_congr (B := G) (C := zm M) (fun j hj => gR.1 j (by omega))]
    · exact absurd ⟨k, k1, k2⟩ m2
  · rcases hm with ⟨m1, k', q1, q2, q3, q4⟩ | ⟨m1, m2, m3⟩
    · exact absurd ⟨k', q1, q2⟩ h2
    · exact ⟨by rw [h3]; exact g0, by rw [h3], by rw [h3, m3]; exact gR, Or.inr ⟨h1, m1⟩⟩
theorem z_skip {B : Nat → Bool} {n k : Nat} (hk : k < n) (he : zn B n (k + 1) < n) : zn (upG B (zn B n (k + 1)) false) n (k + 1) = zn B n (zn B n (k + 1) + 1) ∧ zb (upG B (zn B n (k + 1)) false) k = zb B k := by
  have a1 := zn_ge B n (k + 1)
  have a2 := zn_ge B n (zn B n (k + 1) + 1)
  have a3 : zn B n (zn B n (k + 1) + 1) ≤ n := zn_le (by omega)
  refine ⟨zn_uniq (by omega) a3 ?_ (fun j h1 h2 => ?_), zb_congr (fun j hj => upG_ne (by omega))⟩
  · rcases z_nxo (B := B) (n := n) (k := zn B n (k + 1) + 1) (by omega) with q | q
    · exact Or.inl q
    · exact Or.inr (by rw [upG_ne (by omega)]; exact q)
  · by_cases q : j = zn B n (k + 1)
    · rw [q, upG_eq]
    · rw [upG_ne q]
      rcases Nat.lt_or_ge j (zn B n (k + 1)) with w | w
      · exact zn_off j h1 w
      · exact zn_off (k := zn B n (k + 1) + 1) j (by omega) h2
theorem tie_join (g0 : zCI nn pp M S) (gR : zR nn (zm M) G)
    (hc : (kv = nI 0 ∧ ∃ rr : Int32, u.2 = vp_updL fo 0 rr.toInt64 ∧ u.1.1 = nn ∧ zCI nn u.1.2.1 u.1.2.2.1 u.1.2.2.2 ∧ ∃ k, k < nn ∧ x = nI k ∧ rr = nI (if zn (zm M) nn (k + 1) < nn then zn (zm M) nn (zn (zm M) nn (k + 1) + 1) - zb (zm M) k else 0) ∧ ∀ j, j < 16384 → zm u.1.2.2.1 j = (zm M j && !decide (j = zn (zm M) nn (k + 1)))) ∨ (kv = nI 1 ∧ (¬ ∃ k, k < nn ∧ x = nI k) ∧ u = ((nn, pp, M, S), fo)))
    (hm : (b = true ∧ ∃ k, k < nn ∧ x = nI k ∧ ((zn G nn (k + 1) = nn ∧ r = nI 0 ∧ G2 = G) ∨ (zn G nn (k + 1) < nn ∧ r = nI (zn (upG G (zn G nn (k + 1)) false) nn (k + 1) - zb (upG G (zn G nn (k + 1)) false) k) ∧ G2 = upG G (zn G nn (k + 1)) false))) ∨ (b = false ∧ (¬ ∃ k, k < nn ∧ x = nI k) ∧ G2 = G)) : zTie nn u b G2 kv r := by
  have hn := g0.2.1
  rcases hc with ⟨h1, rr, h2, h3, h4, k, k1, k2, k3, k5⟩ | ⟨h1, h2, h3⟩
  · rcases hm with ⟨m1, k', q1, q2, q3⟩ | ⟨m1, m2, m3⟩
    · have e := z_kk g0.2.1 k1 k2 q1 q2
      subst e
      have ee : zn G nn (k + 1) = zn (zm M) nn (k + 1) := zn_congr2 gR.1
      rcases q3 with ⟨q4, q5, q6⟩ | ⟨q4, q5, q6⟩
      · refine ⟨h4, h3, ⟨fun j hj => ?_, by rw [q6]; exact gR.2⟩, Or.inl ⟨h1, m1, ?_⟩⟩
        · rw [q6, k5 j (by omega), decide_eq_false (by omega), Bool.not_false, Bool.and_true]
          exact gR.1 j hj
        · rw [h2, pk_uLs, k3, q5, if_neg (by omega)]
      · obtain ⟨s1, s2⟩ := z_skip k1 q4
        refine ⟨h4, h3, ⟨fun j hj => ?_, ?_⟩, Or.inl ⟨h1, m1, ?_⟩⟩
        · rw [q6, k5 j (by omega), ee]
          by_cases w : j = zn (zm M) nn (k + 1)
          · rw [w, upG_eq, decide_eq_true rfl, Bool.not_true, Bool.and_false]
          · rw [upG_ne w, decide_eq_false w, Bool.not_false, Bool.and_true]; exact gR.1 j hj
        · rw [q6, upG_ne (by omega)]; exact gR.2
        · rw [h2, pk_uLs, k3, q5, s1, s2, ee, if_pos (by omega), zn_congr2 (B := G) (C := zm M) gR.1, zb_congr (B := G) (C := zm M) (fun j hj => gR.1 j (by omega))]
    · exact absurd ⟨k, k1, k2⟩ m2
  · rcases hm with ⟨m1, k', q1, q2, q3⟩ | ⟨m1, m2, m3⟩
    · exact absurd ⟨k', q1, q2⟩ h2
    · exact ⟨by rw [h3]; exact g0, by rw [h3], by rw [h3, m3]; exact gR, Or.inr ⟨h1, m1⟩⟩
theorem tie_make (g0 : zCI nn pp M S) (gR : zR nn (zm M) G)
    (hc : (kv = nI 0 ∧ ∃ rr : Int32, u.2 = vp_updL fo 0 rr.toInt64 ∧ u.1.1 = nn ∧ zCI nn u.1.2.1 u.1.2.2.1 u.1.2.2.2 ∧ ∃ a b, x = nI a ∧ z = nI b ∧ a < b ∧ b ≤ nn ∧ rr = nI u.1.2.1 ∧ ∀ j, j < 16384 → zm u.1.2.2.1 j = ((zm M j || decide (j = a) || (decide (j = b) && decide (b < nn))) && !decide (a < j ∧ j < b))) ∨ (kv = nI 1 ∧ (¬ ∃ a b, x = nI a ∧ z = nI b ∧ a < b ∧ b ≤ nn) ∧ u = ((nn, pp, M, S), fo)))
    (hm : (b = true ∧ ∃ a b, x = nI a ∧ z = nI b ∧ a < b ∧ b ≤ nn ∧ G2 = (fun j => if a ≤ j ∧ j ≤ b then decide (j = a ∨ j = b) else G j) ∧ r = nI (zc G2 nn)) ∨ (b = false ∧ (¬ ∃ a b, x = nI a ∧ z = nI b ∧ a < b ∧ b ≤ nn) ∧ G2 = G)) : zTie nn u b G2 kv r := by
  have hn := g0.2.1
  rcases hc with ⟨h1, rr, h2, h3, h4, a, c, k1, k2, k3, k4, k5, k6⟩ | ⟨h1, h2, h3⟩
  · rcases hm with ⟨m1, a', c', q1, q2, q3, q4, q5, q6⟩ | ⟨m1, m2, m3⟩
    · have e1 : a = a' := (nI_eq (by omega) (by omega)).mp (k1.symm.trans q1)
      have e2 : c = c' := (nI_eq (by omega) (by omega)).mp (k2.symm.trans q2)
      subst e1
      subst e2
      have key : ∀ j, j < nn → G2 j = zm u.1.2.2.1 j := by
        intro j hj
        rw [q5, k6 j (by omega)]
        show (if a ≤ j ∧ j ≤ c then decide (j = a ∨ j = c) else G j) = _
        rw [← gR.1 j hj]
        by_cases w : a ≤ j ∧ j ≤ c
        · rw [if_pos w]
          by_cases w1 : j = a
          · rw [decide_eq_true (Or.inl w1), decide_eq_true w1, decide_eq_false (show ¬ (a < j ∧ j < c) by omega)]; simp
          · by_cases w2 : j = c
            · rw [decide_eq_true (Or.inr w2), decide_eq_true w2, decide_eq_true (show c < nn by omega), decide_eq_false (show ¬ (a < j ∧ j < c) by omega)]; simp
            · rw [decide_eq_false (show ¬ (j = a ∨ j = c) by omega), decide_eq_true (show a < j ∧ j < c by omega)]; simp
        · rw [if_neg w, decide_eq_false (show ¬ j = a by omega), decide_eq_false (show ¬ j = c by omega), decide_eq_false (show ¬ (a < j ∧ j < c) by omega)]; simp
      refine ⟨h4, h3, ⟨key, ?_⟩, Or.inl ⟨h1, m1, ?_⟩⟩
      · rw [q5]
        show (if a ≤ nn ∧ nn ≤ c then decide (nn = a ∨ nn = c) else G nn) = true
        by_cases w : a ≤ nn ∧ nn ≤ c
        · rw [if_pos w, decide_eq_true (by omega)]
        · rw [if_neg w]; exact gR.2
      · rw [h2, pk_uLs, k5, q6, h4.2.2.2.2.1, zc_congr key]
    · exact absurd ⟨a, c, k1, k2, k3, k4⟩ m2
  · rcases hm with ⟨m1, a', c', q1, q2, q3, q4, q5, q6⟩ | ⟨m1, m2, m3⟩
    · exact absurd ⟨a', c', q1, q2, q3, q4⟩ h2
    · exact ⟨by rw [h3]; exact g0, by rw [h3], by rw [h3, m3]; exact gR, Or.inr ⟨h1, m1⟩⟩
theorem tie_space {n2 : Nat} (g0 : zCI nn pp M S) (gR : zR nn (zm M) G)
    (hc : (kv = nI 0 ∧ ∃ rr : Int32, u.2 = vp_updL fo 0 rr.toInt64 ∧ x = nI u.1.1 ∧ 1 ≤ u.1.1 ∧ u.1.1 ≤ 16384 ∧ rr = nI nn ∧ u.1.2.1 = 1 ∧ zCI u.1.1 1 u.1.2.2.1 u.1.2.2.2 ∧ ∀ j, j < 16384 → zm u.1.2.2.1 j = decide (j = 0)) ∨ (kv = nI 1 ∧ (¬ ∃ k, x = nI k ∧ 1 ≤ k ∧ k ≤ 16384) ∧ u = ((nn, pp, M, S), fo)))
    (hm : (b = true ∧ x = nI n2 ∧ 1 ≤ n2 ∧ n2 ≤ 16384 ∧ r = nI nn ∧ ∀ j, j < 16385 → G2 j = decide (j = 0 ∨ j = n2)) ∨ (b = false ∧ (¬ ∃ k, x = nI k ∧ 1 ≤ k ∧ k ≤ 16384) ∧ n2 = nn ∧ G2 = G)) : zTie n2 u b G2 kv r := by
  rcases hc with ⟨h1, rr, h2, h3, h4, h5, h6, h7, h8, h9⟩ | ⟨h1, h2, h3⟩
  · rcases hm with ⟨m1, m2, m3, m4, m5, m6⟩ | ⟨m1, m2, m3⟩
    · have e : u.1.1 = n2 := (nI_eq (by omega) (by omega)).mp (h3.symm.trans m2)
      refine ⟨by rw [← e, h7]; exact h8, e, ⟨fun j hj => ?_, ?_⟩, Or.inl ⟨h1, m1, ?_⟩⟩
      · rw [m6 j (by omega), h9 j (by omega)]
        exact decide_eq_decide.mpr ⟨fun q => by omega, fun q => by omega⟩
      · rw [m6 n2 (by omega), decide_eq_true (Or.inr rfl)]
      · rw [h2, pk_uLs, h6, m5]
    · exact absurd ⟨_, h3, h4, h5⟩ m2
  · rcases hm with ⟨m1, m2, m3, m4, m5, m6⟩ | ⟨m1, m2, m3, m4⟩
    · exact absurd ⟨_, m2, m3, m4⟩ h2
    · subst m3
      exact ⟨by rw [h3]; exact g0, by rw [h3], by rw [h3, m4]; exact gR, Or.inr ⟨h1, m1⟩⟩
end TIE
theorem z_cmp (x : Int64) : lg_cmp x x = 0 := by
  unfold lg_cmp
  have h : ¬ x > x := by
    show ¬ x < x
    rw [Int64.lt_iff_toInt_lt]
    omega
  rw [if_neg h, if_pos rfl]
