set_option maxHeartbeats 4000000 in
set_option maxRecDepth 100000 in
/-- cutAt(k) -/
theorem c_cutAt (l : Launch) (dC : Nat → ClassId) (dI : Nat → Nat → Nat) (h0 h1 h2 : Nat) (cA cB : ClassId) (sz : Nat) (M S : Nat → Int32) (nn pp : Nat) (k : Nat) (g0 : zCI nn pp M S) (g1 : k < nn) : Met l y_X_cutAt ws_X_cutAt ({ frames := 3, cells := 0, slots := 0, locals := 67 }) (va_Pc [.ref h0, .int (nI k)] (cc_P (dC, dI) vwCl (wX h0 h1 h2 cA cB M S (nI nn) (nI pp)) (tX cA cB) sz)) (va_Qv (S := (Nat → Int32) × (Nat → Int32) × Nat) (fun (u : (Nat → Int32) × (Nat → Int32) × Nat) => zCI nn u.2.2 u.1 u.2.1 ∧ ∀ j, zm u.1 j = (zm M j || decide (j = k))) (fun u t => cc_B (dC, dI) vwCl (tX cA cB) (va_A (wX h0 h1 h2 cA cB M S (nI nn) (nI pp)) sz) ((fun u : (Nat → Int32) × (Nat → Int32) × Nat => (wX h0 h1 h2 cA cB u.1 u.2.1 (nI nn) (nI u.2.2))) u) t) (va_A (wX h0 h1 h2 cA cB M S (nI nn) (nI pp)) sz)) 0 0 (va_A (wX h0 h1 h2 cA cB M S (nI nn) (nI pp)) sz) := by
  refine Met.ofW (cc := c_X_cutAt) (maxL := 2) (ret := none) (by decide) rfl ?_
  intro p e s m args below meth c s₁ B hml hv
  obtain ⟨rfl, hsz, hP, hK, hD0⟩ := hv
  have hx := B.exec
  have hb := B.bytes
  have hr := B.returns
  have hts : ∀ w ∈ zAll, w.before _ s = true := fun w h => atoms_spec (ws := ws_X_cutAt) B.pre w (List.mem_cons_of_mem _ h)
  have hown : s.vm.findClass RX = some m.cls := findClass_of_methodNamed B.named
  have hlocks := B.notSynchronized
  subst hsz
  have hD := hD0.self (sz := s.heap.size)
  generalize hAe : va_A (wX h0 h1 h2 cA cB M S (nI nn) (nI pp)) s.heap.size = A at hD ⊢
  have hA : ∀ q : Nat, s.heap.size ≤ q → A q := fun q h => by rw [← hAe]; exact Or.inr h
  have hS : va_S A s.heap s.heap [] := va_S.rf
  replace hP : va_P (dC, dI) vwCl [(h0, .inr (0, [.ref h1, .ref h2, .int (nI nn), .int (nI pp)])), (h1, .inl (cA, 512, .inl M)), (h2, .inl (cB, 512, .inl S))] s.heap := hP
  replace hD : va_D A [(h0, .inr (0, [.ref h1, .ref h2, .int (nI nn), .int (nI pp)])), (h1, .inl (cA, 512, .inl M)), (h2, .inl (cB, 512, .inl S))] := hD
  have hl := lv_entry ([.ref h0, .int (nI k)]) (n := 2) (Nat.le_of_ble_eq_true rfl)
  rw [lg_entry_eq]
  generalize (lg_sl ([.ref h0, .int (nI k)]) ++ List.replicate (2 - (lg_sl ([.ref h0, .int (nI k)])).length) Slot.unset).toArray = ls at hl ⊢
  replace hl : lv_has ls 2 [(0, .ref h0), (1, .int (nI k))] := hl
  have gi := g0
  obtain ⟨i1, i2, i3, i4, i5, i6⟩ := gi
  refine lv_aload_n hx hb d_X_cutAt_0 rfl (lv_at hl 0 rfl) ?_
  refine lv_iload_n hx hb d_X_cutAt_1 rfl (lv_at hl 1 rfl) ?_
  refine cc_Vi (wc := [(h0, .inr (0, [.ref h1, .ref h2, .int (nI nn), .int (nI pp)])), (h1, .inl (cA, 512, .inl M)), (h2, .inl (cB, 512, .inl S))]) (wr := []) (tys' := [(cA, .int), (cB, .int)]) ⟨hx, hb, hml, hown, hts⟩ hP hD hK hS hA [0, 1, 2] [] [0, 1] rfl rfl rfl (by decide) (by decide) (by decide) rfl (c_beginOf l dC dI h0 h1 h2 cA cB _ M S nn (nI pp) k (by omega) i3 (i6 _ (by omega))) (cwV 1 hts g_X_34 rfl rfl rfl (by decide +kernel) ⟨Nat.le_of_ble_eq_true rfl, Nat.le_of_ble_eq_true rfl⟩) 0 0 rfl rfl rfl rfl hl.1 rfl (Nat.le_of_ble_eq_true rfl) d_X_cutAt_2 ⟨Nat.le_of_ble_eq_true rfl, Nat.le_of_ble_eq_true rfl⟩ (fun r_9 u H locs hw hP hD hS => ?_)
  replace hP : va_P (dC, dI) vwCl [(h0, .inr (0, [.ref h1, .ref h2, .int (nI nn), .int (nI pp)])), (h1, .inl (cA, 512, .inl M)), (h2, .inl (cB, 512, .inl S))] H := hP
  replace hD : va_D A [(h0, .inr (0, [.ref h1, .ref h2, .int (nI nn), .int (nI pp)])), (h1, .inl (cA, 512, .inl M)), (h2, .inl (cB, 512, .inl S))] := hD
  subst hw
  have zl := zb_le (zm M) k
  refine lv_iload_n hx hb d_X_cutAt_5 rfl (lv_at hl 1 rfl) ?_
  refine lv_icmp_ne (tgt := 10) hx hb d_X_cutAt_6 (by decide) (fun c1 => ?_) (fun c1 => ?_)
  · replace c1 : ¬ (zb (zm M) k = k) := fun h9 => c1 ((nI_eq (a := zb (zm M) k) (b := k) (by omega) (by omega)).mpr h9)
    refine lv_aload_n hx hb d_X_cutAt_10 rfl (lv_at hl 0 rfl) ?_
    refine va_get (D := (dC, dI)) (ci := 0) (v := .ref h1) (C := RX) (T := TX) (N := 4) hx hb hts inX hown hK hP 0 rfl rfl 0 (by decide) (hts _ wl_X_9) (fun _ h9 => h9) rfl d_X_cutAt_11 ?_
    refine lv_iload_n hx hb d_X_cutAt_14 rfl (lv_at hl 1 rfl) ?_
    refine lv_bipush (v := nI 32) hx hb d_X_cutAt_15 (by decide) ?_
    refine lv_idiv hx hb d_X_cutAt_17 (by decide) ?_
    refine lv_topi (nm_r (show _ = nI (k / 32) from pk_div (by omega) (by omega) (by omega)) ?_)
    refine lv_dup2_11 hx hb d_X_cutAt_18 rfl rfl ?_
    refine va_iald hx hb hK hP 1 0 rfl rfl (vp_in_nI (by omega) (by decide)) d_X_cutAt_19 ?_
    refine lv_topi (nm_r (show _ = M (k / 32) from by rw [nI_clamp (by omega)]) ?_)
    refine lv_iload_n hx hb d_X_cutAt_20 rfl (lv_at hl 1 rfl) ?_
    refine cc_Si (wc := []) (wr := [(h0, .inr (0, [.ref h1, .ref h2, .int (nI nn), .int (nI pp)])), (h1, .inl (cA, 512, .inl M)), (h2, .inl (cB, 512, .inl S))]) (tys' := []) ⟨hx, hb, hml, hown, hts⟩ hP hD hK hS hA [] [0, 1, 2] [] rfl rfl rfl (by decide) (by decide) (by decide) rfl (c_bitOf l dC dI _ k (by omega)) (va_cwS 1 hts g_X_93 rfl rfl rfl (by decide +kernel) ⟨Nat.le_of_ble_eq_true rfl, Nat.le_of_ble_eq_true rfl⟩) rfl hl.1 rfl (Nat.le_of_ble_eq_true rfl) d_X_cutAt_21 ⟨Nat.le_of_ble_eq_true rfl, Nat.le_of_ble_eq_true rfl⟩ (fun r_9 u H locs hw hP hD hS => ?_)
    replace hP : va_P (dC, dI) vwCl [(h0, .inr (0, [.ref h1, .ref h2, .int (nI nn), .int (nI pp)])), (h1, .inl (cA, 512, .inl M)), (h2, .inl (cB, 512, .inl S))] H := hP
    replace hD : va_D A [(h0, .inr (0, [.ref h1, .ref h2, .int (nI nn), .int (nI pp)])), (h1, .inl (cA, 512, .inl M)), (h2, .inl (cB, 512, .inl S))] := hD
    subst hw
    refine lv_ior hx hb d_X_cutAt_24 ?_
    refine va_iast hx hb hK hP hD hS 1 0 rfl rfl (vp_in_nI (by omega) (by decide)) d_X_cutAt_25 (fun H locs hP hD hS => ?_)
    rw [nI_clamp (by omega)] at hP hD
    replace hP : va_P (dC, dI) vwCl [(h0, .inr (0, [.ref h1, .ref h2, .int (nI nn), .int (nI pp)])), (h1, .inl (cA, 512, .inl (upd M (k / 32) ((M (k / 32)) ||| ((1 : Int32) <<< (nI (k % 32) &&& 31)))))), (h2, .inl (cB, 512, .inl S))] H := hP
    replace hD : va_D A [(h0, .inr (0, [.ref h1, .ref h2, .int (nI nn), .int (nI pp)])), (h1, .inl (cA, 512, .inl (upd M (k / 32) ((M (k / 32)) ||| ((1 : Int32) <<< (nI (k % 32) &&& 31)))))), (h2, .inl (cB, 512, .inl S))] := hD
    obtain ⟨M2, eM⟩ : ∃ M2 : Nat → Int32, M2 = upd M (k / 32) ((M (k / 32)) ||| ((1 : Int32) <<< (nI (k % 32) &&& 31))) := ⟨_, rfl⟩
    rw [← eM] at hP hD
    have hM2 : ∀ j, zm M2 j = (zm M j || decide (j = k)) := fun j => by (rw [eM, zm_set (Nat.mod_lt _ (by decide))]; rw [show 32 * (k / 32) + k % 32 = k by omega])
    clear eM
    have h4 : ∀ j, nn ≤ j → j < 16384 → zm M2 j = false := fun j a b => by (rw [hM2, i4 j a b, decide_eq_false (by omega)]; rfl)
    have hpp : pp < 16385 := by (rw [i5]; have := zc_le (zm M) nn; omega)
    refine lv_aload_n hx hb d_X_cutAt_26 rfl (lv_at hl 0 rfl) ?_
    refine lv_dup hx hb d_X_cutAt_27 rfl ?_
    refine va_get (D := (dC, dI)) (ci := 0) (v := .int (nI pp)) (C := RX) (T := TX) (N := 4) hx hb hts inX hown hK hP 0 rfl rfl 3 (by decide) (hts _ wl_X_53) (fun _ h9 => h9) rfl d_X_cutAt_28 ?_
    refine lv_iconst (v := nI 1) hx hb d_X_cutAt_31 (by decide) ?_
    refine lv_iadd hx hb d_X_cutAt_32 ?_
    refine lv_topi (nm_r (show _ = nI (pp + 1) from nI_add _ _) ?_)
    refine va_put (D := (dC, dI)) (ci := 0) (v := .int (nI (pp + 1))) (ty := .int) (C := RX) (T := TX) (N := 4) hx hb hts inX tyX tyX_ok nmX hown hK hP hD hS 0 rfl rfl 3 (by decide) (hts _ wl_X_53) (fun _ h9 => h9) rfl (by decide +kernel) rfl rfl (Nat.le_of_ble_eq_true rfl) d_X_cutAt_33 (fun H locs hP hD hS => ?_)
    replace hP : va_P (dC, dI) vwCl [(h0, .inr (0, [.ref h1, .ref h2, .int (nI nn), .int (nI (pp + 1))])), (h1, .inl (cA, 512, .inl M2)), (h2, .inl (cB, 512, .inl S))] H := hP
    replace hD : va_D A [(h0, .inr (0, [.ref h1, .ref h2, .int (nI nn), .int (nI (pp + 1))])), (h1, .inl (cA, 512, .inl M2)), (h2, .inl (cB, 512, .inl S))] := hD
    refine lv_aload_n hx hb d_X_cutAt_36 rfl (lv_at hl 0 rfl) ?_
    refine lv_iload_n hx hb d_X_cutAt_37 rfl (lv_at hl 1 rfl) ?_
    refine lv_aload_n hx hb d_X_cutAt_38 rfl (lv_at hl 0 rfl) ?_
    refine lv_iload_n hx hb d_X_cutAt_39 rfl (lv_at hl 1 rfl) ?_
    refine cc_Vi (wc := [(h0, .inr (0, [.ref h1, .ref h2, .int (nI nn), .int (nI (pp + 1))])), (h1, .inl (cA, 512, .inl M2)), (h2, .inl (cB, 512, .inl S))]) (wr := []) (tys' := [(cA, .int), (cB, .int)]) ⟨hx, hb, hml, hown, hts⟩ hP hD hK hS hA [0, 1, 2] [] [0, 1] rfl rfl rfl (by decide) (by decide) (by decide) rfl (c_endOf l dC dI h0 h1 h2 cA cB _ M2 S nn _ k g1 i2 h4) (cwV 1 hts g_X_41 rfl rfl rfl (by decide +kernel) ⟨Nat.le_of_ble_eq_true rfl, Nat.le_of_ble_eq_true rfl⟩) 0 0 rfl rfl rfl rfl hl.1 rfl (Nat.le_of_ble_eq_true rfl) d_X_cutAt_40 ⟨Nat.le_of_ble_eq_true rfl, Nat.le_of_ble_eq_true rfl⟩ (fun r_9 u H locs hw hP hD hS => ?_)
    replace hP : va_P (dC, dI) vwCl [(h0, .inr (0, [.ref h1, .ref h2, .int (nI nn), .int (nI (pp + 1))])), (h1, .inl (cA, 512, .inl M2)), (h2, .inl (cB, 512, .inl S))] H := hP
    replace hD : va_D A [(h0, .inr (0, [.ref h1, .ref h2, .int (nI nn), .int (nI (pp + 1))])), (h1, .inl (cA, 512, .inl M2)), (h2, .inl (cB, 512, .inl S))] := hD
    subst hw
    have e1 := zn_ge (zm M2) nn (k + 1)
    have e2 : zn (zm M2) nn (k + 1) ≤ nn := zn_le (by omega)
    refine cc_Vv (wc := [(h0, .inr (0, [.ref h1, .ref h2, .int (nI nn), .int (nI (pp + 1))])), (h1, .inl (cA, 512, .inl M2)), (h2, .inl (cB, 512, .inl S))]) (wr := []) (tys' := [(cA, .int), (cB, .int)]) ⟨hx, hb, hml, hown, hts⟩ hP hD hK hS hA [0, 1, 2] [] [0, 1] rfl rfl rfl (by decide) (by decide) (by decide) rfl (c_tellStarts l dC dI h0 h1 h2 cA cB _ M2 S (nI nn) _ k _ (by omega) (by omega)) (cwV 2 hts g_X_96 rfl rfl rfl (by decide +kernel) ⟨Nat.le_of_ble_eq_true rfl, Nat.le_of_ble_eq_true rfl⟩) 0 0 rfl rfl rfl rfl hl.1 rfl (Nat.le_of_ble_eq_true rfl) d_X_cutAt_43 ⟨Nat.le_of_ble_eq_true rfl, Nat.le_of_ble_eq_true rfl⟩ (fun S2 H locs hw hP hD hS => ?_)
    replace hP : va_P (dC, dI) vwCl [(h0, .inr (0, [.ref h1, .ref h2, .int (nI nn), .int (nI (pp + 1))])), (h1, .inl (cA, 512, .inl M2)), (h2, .inl (cB, 512, .inl S2))] H := hP
    replace hD : va_D A [(h0, .inr (0, [.ref h1, .ref h2, .int (nI nn), .int (nI (pp + 1))])), (h1, .inl (cA, 512, .inl M2)), (h2, .inl (cB, 512, .inl S2))] := hD
    exact W.vret hx hb hr (fun t9 ht9 hW9 => ⟨⟨(M2, S2, pp + 1), rfl, ⟨z_cut g0 g1 c1 hM2 hw, hM2⟩, by rw [ht9]; exact hP, va_K.moved hW9.alike hK, hD⟩, hS.F ht9⟩) hS.2.2 d_X_cutAt_46
  · replace c1 : zb (zm M) k = k := (nI_eq (a := zb (zm M) k) (b := k) (by omega) (by omega)).mp c1
    have on1 : zm M k = true := by (have z9 := zb_on i3 k; rw [c1] at z9; exact z9)
    have hM1 : ∀ j, zm M j = (zm M j || decide (j = k)) := fun j => by
      by_cases q : j = k
      · rw [q, on1, Bool.true_or]
      · rw [decide_eq_false q, Bool.or_false]
    exact W.vret hx hb hr (fun t9 ht9 hW9 => ⟨⟨(M, S, pp), rfl, ⟨g0, hM1⟩, by rw [ht9]; exact hP, va_K.moved hW9.alike hK, hD⟩, hS.F ht9⟩) hS.2.2 d_X_cutAt_9
set_option maxHeartbeats 4000000 in
set_option maxRecDepth 100000 in
/-- merge(a, b) -/
theorem c_merge (l : Launch) (dC : Nat → ClassId) (dI : Nat → Nat → Nat) (h0 h1 h2 : Nat) (cA cB : ClassId) (sz : Nat) (M S : Nat → Int32) (nn pp : Nat) (a b : Nat) (g0 : zCI nn pp M S) (g1 : a < b) (g2 : b ≤ nn) (g3 : zm M a = true) (g4 : b = nn ∨ zm M b = true) : Met l y_X_merge ws_X_merge ({ frames := 3, cells := 0, slots := 0, locals := 67 }) (va_Pc [.ref h0, .int (nI a), .int (nI b)] (cc_P (dC, dI) vwCl (wX h0 h1 h2 cA cB M S (nI nn) (nI pp)) (tX cA cB) sz)) (va_Qv (S := (Nat → Int32) × (Nat → Int32) × Nat) (fun (u : (Nat → Int32) × (Nat → Int32) × Nat) => zCI nn u.2.2 u.1 u.2.1 ∧ zG M u.1 a b) (fun u t => cc_B (dC, dI) vwCl (tX cA cB) (va_A (wX h0 h1 h2 cA cB M S (nI nn) (nI pp)) sz) ((fun u : (Nat → Int32) × (Nat → Int32) × Nat => (wX h0 h1 h2 cA cB u.1 u.2.1 (nI nn) (nI u.2.2))) u) t) (va_A (wX h0 h1 h2 cA cB M S (nI nn) (nI pp)) sz)) 0 0 (va_A (wX h0 h1 h2 cA cB M S (nI nn) (nI pp)) sz) := by
  refine Met.ofW (cc := c_X_merge) (maxL := 6) (ret := none) (by decide) rfl ?_
  intro p e s m args below meth c s₁ B hml hv
  obtain ⟨rfl, hsz, hP, hK, hD0⟩ := hv
  have hx := B.exec
  have hb := B.bytes
  have hr := B.returns
  have hts : ∀ w ∈ zAll, w.before _ s = true := fun w h => atoms_spec (ws := ws_X_merge) B.pre w (List.mem_cons_of_mem _ h)
  have hown : s.vm.findClass RX = some m.cls := findClass_of_methodNamed B.named
  have hlocks := B.notSynchronized
  subst hsz
  have hD := hD0.self (sz := s.heap.size)
  generalize hAe : va_A (wX h0 h1 h2 cA cB M S (nI nn) (nI pp)) s.heap.size = A at hD ⊢
  have hA : ∀ q : Nat, s.heap.size ≤ q → A q := fun q h => by rw [← hAe]; exact Or.inr h
  have hS : va_S A s.heap s.heap [] := va_S.rf
  replace hP : va_P (dC, dI) vwCl [(h0, .inr (0, [.ref h1, .ref h2, .int (nI nn), .int (nI pp)])), (h1, .inl (cA, 512, .inl M)), (h2, .inl (cB, 512, .inl S))] s.heap := hP
  replace hD : va_D A [(h0, .inr (0, [.ref h1, .ref h2, .int (nI nn), .int (nI pp)])), (h1, .inl (cA, 512, .inl M)), (h2, .inl (cB, 512, .inl S))] := hD
  have hl := lv_entry ([.ref h0, .int (nI a), .int (nI b)]) (n := 6) (Nat.le_of_ble_eq_true rfl)
  rw [lg_entry_eq]
  generalize (lg_sl ([.ref h0, .int (nI a), .int (nI b)]) ++ List.replicate (6 - (lg_sl ([.ref h0, .int (nI a), .int (nI b)])).length) Slot.unset).toArray = ls at hl ⊢
  replace hl : lv_has ls 6 [(0, .ref h0), (1, .int (nI a)), (2, .int (nI b))] := hl
  have gi := g0
  obtain ⟨i1, i2, i3, i4, i5, i6⟩ := gi
  refine lv_aload_n hx hb d_X_merge_0 rfl (lv_at hl 0 rfl) ?_
  refine va_get (D := (dC, dI)) (ci := 0) (v := .int (nI pp)) (C := RX) (T := TX) (N := 4) hx hb hts inX hown hK hP 0 rfl rfl 3 (by decide) (hts _ wl_X_53) (fun _ h9 => h9) rfl d_X_merge_1 ?_
  refine lv_istore_n (lv' := [(3, .int (nI pp)), (0, .ref h0), (1, .int (nI a)), (2, .int (nI b))]) hx hb d_X_merge_4 rfl hl (by decide) rfl (fun ls hl => ?_)
  refine lv_aload_n hx hb d_X_merge_5 rfl (lv_at hl 1 rfl) ?_
  refine lv_iload_n hx hb d_X_merge_6 rfl (lv_at hl 2 rfl) ?_
  refine cc_Vi (wc := [(h0, .inr (0, [.ref h1, .ref h2, .int (nI nn), .int (nI pp)])), (h1, .inl (cA, 512, .inl M)), (h2, .inl (cB, 512, .inl S))]) (wr := []) (tys' := [(cA, .int), (cB, .int)]) ⟨hx, hb, hml, hown, hts⟩ hP hD hK hS hA [0, 1, 2] [] [0, 1] rfl rfl rfl (by decide) (by decide) (by decide) rfl (c_endOf l dC dI h0 h1 h2 cA cB _ M S nn (nI pp) a (by omega) i2 i4) (cwV 1 hts g_X_41 rfl rfl rfl (by decide +kernel) ⟨Nat.le_of_ble_eq_true rfl, Nat.le_of_ble_eq_true rfl⟩) 0 0 rfl rfl rfl rfl hl.1 rfl (Nat.le_of_ble_eq_true rfl) d_X_merge_7 ⟨Nat.le_of_ble_eq_true rfl, Nat.le_of_ble_eq_true rfl⟩ (fun r_9 u H locs hw hP hD hS => ?_)
  replace hP : va_P (dC, dI) vwCl [(h0, .inr (0, [.ref h1, .ref h2, .int (nI nn), .int (nI pp)])), (h1, .inl (cA, 512, .inl M)), (h2, .inl (cB, 512, .inl S))] H := hP
  replace hD : va_D A [(h0, .inr (0, [.ref h1, .ref h2, .int (nI nn), .int (nI pp)])), (h1, .inl (cA, 512, .inl M)), (h2, .inl (cB, 512, .inl S))] := hD
  subst hw
  refine lv_istore (lv' := [(4, .int (nI (zn (zm M) nn (a + 1)))), (3, .int (nI pp)), (0, .ref h0), (1, .int (nI a)), (2, .int (nI b))]) hx hb d_X_merge_10 hl (by decide) rfl (fun ls hl => ?_)
  refine lv_iconst (v := nI 0) hx hb d_X_merge_12 (by decide) ?_
  refine lv_istore (lv' := [(5, .int (nI 0)), (4, .int (nI (zn (zm M) nn (a + 1)))), (3, .int (nI pp)), (0, .ref h0), (1, .int (nI a)), (2, .int (nI b))]) hx hb d_X_merge_13 hl (by decide) rfl (fun ls hl => ?_)
  refine cc_from hP hD hS (fun H locs hP hD hS => ?_)
  obtain ⟨ee, e_ee⟩ : ∃ ee : Nat, ee = zn (zm M) nn (a + 1) := ⟨_, rfl⟩
  obtain ⟨i, e_i⟩ : ∃ i : Nat, i = 0 := ⟨_, rfl⟩
  obtain ⟨f, e_f⟩ : ∃ f : Nat → Int32, f = M := ⟨_, rfl⟩
  obtain ⟨q, e_q⟩ : ∃ q : Nat, q = pp := ⟨_, rfl⟩
  replace hl : lv_has ls 6 [(0, .ref h0), (1, .int (nI a)), (2, .int (nI b)), (3, .int (nI pp)), (4, .int (nI ee)), (5, .int (nI i))] := by (subst e_ee; subst e_i; subst e_f; subst e_q; exact lv_sub hl [3, 4, 5, 2, 1, 0] rfl)
  replace hP : va_P (dC, dI) vwCl [(h0, .inr (0, [.ref h1, .ref h2, .int (nI nn), .int (nI q)])), (h1, .inl (cA, 512, .inl f)), (h2, .inl (cB, 512, .inl S))] H := by (subst e_ee; subst e_i; subst e_f; subst e_q; exact hP)
  replace hD : va_D A [(h0, .inr (0, [.ref h1, .ref h2, .int (nI nn), .int (nI q)])), (h1, .inl (cA, 512, .inl f)), (h2, .inl (cB, 512, .inl S))] := by (subst e_ee; subst e_i; subst e_f; subst e_q; exact hD)
  have k1 : a < ee := by (subst e_ee; subst e_i; subst e_f; subst e_q; exact zn_ge _ _ _)
  have k2 : ee ≤ b := by (subst e_ee; subst e_i; subst e_f; subst e_q; exact z_nxb g1 g2 g4)
  have k3 : zG M f a ee := by (subst e_ee; subst e_i; subst e_f; subst e_q; exact zG_0 i2 (by omega) i4)
  have k4 : q = zc (zm f) nn := by (subst e_ee; subst e_i; subst e_f; subst e_q; exact i5)
  have k5 : i + q = pp := by (subst e_ee; subst e_i; subst e_f; subst e_q; exact Nat.zero_add _)
  have k6 : ee = nn ∨ zm f ee = true := by (subst e_ee; subst e_i; subst e_f; subst e_q; exact z_nxo (by omega))
  clear e_ee e_i e_f e_q
  obtain ⟨f9, hf9⟩ : ∃ f9 : Nat, nn - ee < f9 := ⟨_, Nat.lt_succ_self _⟩
  induction f9 generalizing ls H locs ee i f q with
  | zero => exact absurd hf9 (Nat.not_lt_zero _)
  | succ f9 ih =>
    have hpp : pp < 16385 := by (rw [i5]; have := zc_le (zm M) nn; omega)
    have hfa : zm f a = true := by (rw [zG_out k3 (by omega) (Or.inl (Nat.le_refl _))]; exact g3)
    have hq1 : 1 ≤ q := by (rw [k4]; exact zc_pos (show a < nn by omega) hfa)
    have hf4 : ∀ j, nn ≤ j → j < 16384 → zm f j = false := fun j x1 x2 => by (rw [zG_out k3 x2 (Or.inr (by omega))]; exact i4 j x1 x2)
    refine lv_iload hx hb d_X_merge_15 (lv_at hl 5 rfl) ?_
    refine lv_iload_n hx hb d_X_merge_17 rfl (lv_at hl 3 rfl) ?_
    refine lv_icmp_ge (tgt := 71) hx hb d_X_merge_18 (by decide) (fun c1 => ?_) (fun c1 => ?_)
    · replace c1 : pp ≤ i := (nI_leI (a := pp) (b := i) (by omega) (by omega)).mp c1
      omega
    · replace c1 : ¬ (pp ≤ i) := fun h9 => c1 ((nI_leI (a := pp) (b := i) (by omega) (by omega)).mpr h9)
      refine lv_iload hx hb d_X_merge_21 (lv_at hl 4 rfl) ?_
      refine lv_iload_n hx hb d_X_merge_23 rfl (lv_at hl 2 rfl) ?_
      refine lv_icmp_ge (tgt := 71) hx hb d_X_merge_24 (by decide) (fun c2 => ?_) (fun c2 => ?_)
      · replace c2 : b ≤ ee := (nI_leI (a := b) (b := ee) (by omega) (by omega)).mp c2
        have eb : ee = b := by omega
        subst eb
        refine lv_aload_n hx hb d_X_merge_71 rfl (lv_at hl 0 rfl) ?_
        refine lv_iload_n hx hb d_X_merge_72 rfl (lv_at hl 1 rfl) ?_
        refine lv_iload_n hx hb d_X_merge_73 rfl (lv_at hl 2 rfl) ?_
        refine cc_Vv (wc := [(h0, .inr (0, [.ref h1, .ref h2, .int (nI nn), .int (nI q)])), (h1, .inl (cA, 512, .inl f)), (h2, .inl (cB, 512, .inl S))]) (wr := []) (tys' := [(cA, .int), (cB, .int)]) ⟨hx, hb, hml, hown, hts⟩ hP hD hK hS hA [0, 1, 2] [] [0, 1] rfl rfl rfl (by decide) (by decide) (by decide) rfl (c_tellStarts l dC dI h0 h1 h2 cA cB _ f S (nI nn) _ a _ (by omega) (by omega)) (cwV 2 hts g_X_96 rfl rfl rfl (by decide +kernel) ⟨Nat.le_of_ble_eq_true rfl, Nat.le_of_ble_eq_true rfl⟩) 0 0 rfl rfl rfl rfl hl.1 rfl (Nat.le_of_ble_eq_true rfl) d_X_merge_74 ⟨Nat.le_of_ble_eq_true rfl, Nat.le_of_ble_eq_true rfl⟩ (fun S2 H locs hw hP hD hS => ?_)
        replace hP : va_P (dC, dI) vwCl [(h0, .inr (0, [.ref h1, .ref h2, .int (nI nn), .int (nI q)])), (h1, .inl (cA, 512, .inl f)), (h2, .inl (cB, 512, .inl S2))] H := hP
        replace hD : va_D A [(h0, .inr (0, [.ref h1, .ref h2, .int (nI nn), .int (nI q)])), (h1, .inl (cA, 512, .inl f)), (h2, .inl (cB, 512, .inl S2))] := hD
        exact W.vret hx hb hr (fun t9 ht9 hW9 => ⟨⟨(f, S2, q), rfl, ⟨by rw [k4]; exact z_merge g0 g1 g2 g3 g4 k3 hw, k3⟩, by rw [ht9]; exact hP, va_K.moved hW9.alike hK, hD⟩, hS.F ht9⟩) hS.2.2 d_X_merge_77
      · replace c2 : ¬ (b ≤ ee) := fun h9 => c2 ((nI_leI (a := b) (b := ee) (by omega) (by omega)).mpr h9)
        have hlt : ee < b := by omega
        have hfe : zm f ee = true := k6.elim (fun z => absurd z (by omega)) id
        refine lv_aload_n hx hb d_X_merge_27 rfl (lv_at hl 0 rfl) ?_
        refine va_get (D := (dC, dI)) (ci := 0) (v := .ref h1) (C := RX) (T := TX) (N := 4) hx hb hts inX hown hK hP 0 rfl rfl 0 (by decide) (hts _ wl_X_9) (fun _ h9 => h9) rfl d_X_merge_28 ?_
        refine lv_iload hx hb d_X_merge_31 (lv_at hl 4 rfl) ?_
        refine lv_bipush (v := nI 32) hx hb d_X_merge_33 (by decide) ?_
        refine lv_idiv hx hb d_X_merge_35 (by decide) ?_
        refine lv_topi (nm_r (show _ = nI (ee / 32) from pk_div (by omega) (by omega) (by omega)) ?_)
        refine lv_dup2_11 hx hb d_X_merge_36 rfl rfl ?_
        refine va_iald hx hb hK hP 1 0 rfl rfl (vp_in_nI (by omega) (by decide)) d_X_merge_37 ?_
        refine lv_topi (nm_r (show _ = f (ee / 32) from by rw [nI_clamp (by omega)]) ?_)
        refine lv_iload hx hb d_X_merge_38 (lv_at hl 4 rfl) ?_
        refine cc_Si (wc := []) (wr := [(h0, .inr (0, [.ref h1, .ref h2, .int (nI nn), .int (nI q)])), (h1, .inl (cA, 512, .inl f)), (h2, .inl (cB, 512, .inl S))]) (tys' := []) ⟨hx, hb, hml, hown, hts⟩ hP hD hK hS hA [] [0, 1, 2] [] rfl rfl rfl (by decide) (by decide) (by decide) rfl (c_bitOf l dC dI _ ee (by omega)) (va_cwS 1 hts g_X_93 rfl rfl rfl (by decide +kernel) ⟨Nat.le_of_ble_eq_true rfl, Nat.le_of_ble_eq_true rfl⟩) rfl hl.1 rfl (Nat.le_of_ble_eq_true rfl) d_X_merge_40 ⟨Nat.le_of_ble_eq_true rfl, Nat.le_of_ble_eq_true rfl⟩ (fun r_9 u H locs hw hP hD hS => ?_)
        replace hP : va_P (dC, dI) vwCl [(h0, .inr (0, [.ref h1, .ref h2, .int (nI nn), .int (nI q)])), (h1, .inl (cA, 512, .inl f)), (h2, .inl (cB, 512, .inl S))] H := hP
        replace hD : va_D A [(h0, .inr (0, [.ref h1, .ref h2, .int (nI nn), .int (nI q)])), (h1, .inl (cA, 512, .inl f)), (h2, .inl (cB, 512, .inl S))] := hD
        subst hw
        refine lv_iconst (v := (-1 : Int32)) hx hb d_X_merge_43 (by decide) ?_
        refine lv_ixor hx hb d_X_merge_44 ?_
        refine lv_iand hx hb d_X_merge_45 ?_
        refine va_iast hx hb hK hP hD hS 1 0 rfl rfl (vp_in_nI (by omega) (by decide)) d_X_merge_46 (fun H locs hP hD hS => ?_)
        rw [nI_clamp (by omega)] at hP hD
        replace hP : va_P (dC, dI) vwCl [(h0, .inr (0, [.ref h1, .ref h2, .int (nI nn), .int (nI q)])), (h1, .inl (cA, 512, .inl (upd f (ee / 32) ((f (ee / 32)) &&& (((1 : Int32) <<< (nI (ee % 32) &&& 31)) ^^^ (-1 : Int32)))))), (h2, .inl (cB, 512, .inl S))] H := hP
        replace hD : va_D A [(h0, .inr (0, [.ref h1, .ref h2, .int (nI nn), .int (nI q)])), (h1, .inl (cA, 512, .inl (upd f (ee / 32) ((f (ee / 32)) &&& (((1 : Int32) <<< (nI (ee % 32) &&& 31)) ^^^ (-1 : Int32)))))), (h2, .inl (cB, 512, .inl S))] := hD
        obtain ⟨M2, eM⟩ : ∃ M2 : Nat → Int32, M2 = upd f (ee / 32) ((f (ee / 32)) &&& (((1 : Int32) <<< (nI (ee % 32) &&& 31)) ^^^ (-1 : Int32))) := ⟨_, rfl⟩
        rw [← eM] at hP hD
        have hM2 : ∀ j, zm M2 j = (zm f j && !decide (j = ee)) := fun j => by (rw [eM, zm_clr (Nat.mod_lt _ (by decide))]; rw [show 32 * (ee / 32) + ee % 32 = ee by omega])
        clear eM
        have h4 : ∀ j, nn ≤ j → j < 16384 → zm M2 j = false := fun j x1 x2 => by (rw [hM2, hf4 j x1 x2]; rfl)
        have hq2 : zc (zm f) nn = zc (zm M2) nn + 1 := zc_set (show ee < nn by omega) (by rw [hM2, decide_eq_true rfl]; simp) hfe (fun j _ hj => by rw [hM2, decide_eq_false hj]; simp)
        refine lv_aload_n hx hb d_X_merge_47 rfl (lv_at hl 0 rfl) ?_
        refine lv_dup hx hb d_X_merge_48 rfl ?_
        refine va_get (D := (dC, dI)) (ci := 0) (v := .int (nI q)) (C := RX) (T := TX) (N := 4) hx hb hts inX hown hK hP 0 rfl rfl 3 (by decide) (hts _ wl_X_53) (fun _ h9 => h9) rfl d_X_merge_49 ?_
        refine lv_iconst (v := nI 1) hx hb d_X_merge_52 (by decide) ?_
        refine lv_isub hx hb d_X_merge_53 ?_
        refine lv_topi (nm_r (show _ = nI (q - 1) from pk_sub (by omega)) ?_)
        refine va_put (D := (dC, dI)) (ci := 0) (v := .int (nI (q - 1))) (ty := .int) (C := RX) (T := TX) (N := 4) hx hb hts inX tyX tyX_ok nmX hown hK hP hD hS 0 rfl rfl 3 (by decide) (hts _ wl_X_53) (fun _ h9 => h9) rfl (by decide +kernel) rfl rfl (Nat.le_of_ble_eq_true rfl) d_X_merge_54 (fun H locs hP hD hS => ?_)
        replace hP : va_P (dC, dI) vwCl [(h0, .inr (0, [.ref h1, .ref h2, .int (nI nn), .int (nI (q - 1))])), (h1, .inl (cA, 512, .inl M2)), (h2, .inl (cB, 512, .inl S))] H := hP
        replace hD : va_D A [(h0, .inr (0, [.ref h1, .ref h2, .int (nI nn), .int (nI (q - 1))])), (h1, .inl (cA, 512, .inl M2)), (h2, .inl (cB, 512, .inl S))] := hD
        refine lv_aload_n hx hb d_X_merge_57 rfl (lv_at hl 0 rfl) ?_
        refine lv_iload hx hb d_X_merge_58 (lv_at hl 4 rfl) ?_
        refine cc_Vi (wc := [(h0, .inr (0, [.ref h1, .ref h2, .int (nI nn), .int (nI (q - 1))])), (h1, .inl (cA, 512, .inl M2)), (h2, .inl (cB, 512, .inl S))]) (wr := []) (tys' := [(cA, .int), (cB, .int)]) ⟨hx, hb, hml, hown, hts⟩ hP hD hK hS hA [0, 1, 2] [] [0, 1] rfl rfl rfl (by decide) (by decide) (by decide) rfl (c_endOf l dC dI h0 h1 h2 cA cB _ M2 S nn _ ee (by omega) i2 h4) (cwV 1 hts g_X_41 rfl rfl rfl (by decide +kernel) ⟨Nat.le_of_ble_eq_true rfl, Nat.le_of_ble_eq_true rfl⟩) 0 0 rfl rfl rfl rfl hl.1 rfl (Nat.le_of_ble_eq_true rfl) d_X_merge_60 ⟨Nat.le_of_ble_eq_true rfl, Nat.le_of_ble_eq_true rfl⟩ (fun r_9 u H locs hw hP hD hS => ?_)
        replace hP : va_P (dC, dI) vwCl [(h0, .inr (0, [.ref h1, .ref h2, .int (nI nn), .int (nI (q - 1))])), (h1, .inl (cA, 512, .inl M2)), (h2, .inl (cB, 512, .inl S))] H := hP
        replace hD : va_D A [(h0, .inr (0, [.ref h1, .ref h2, .int (nI nn), .int (nI (q - 1))])), (h1, .inl (cA, 512, .inl M2)), (h2, .inl (cB, 512, .inl S))] := hD
        subst hw
        have x1 := zn_ge (zm M2) nn (ee + 1)
        have x2 := zG_next i2 k3 k1 hlt g2 g4 hM2
        have x3 := zG_s i2 k3 k1 (by omega) hM2
        have x4 : q - 1 = zc (zm M2) nn := by omega
        have x6 : zn (zm M2) nn (ee + 1) = nn ∨ zm M2 (zn (zm M2) nn (ee + 1)) = true := z_nxo (by omega)
        refine lv_istore (lv' := [(4, .int (nI (zn (zm M2) nn (ee + 1)))), (0, .ref h0), (1, .int (nI a)), (2, .int (nI b)), (3, .int (nI pp)), (5, .int (nI i))]) hx hb d_X_merge_63 hl (by decide) rfl (fun ls hl => ?_)
        refine lv_iinc (v := nI (i + 1)) (lv' := [(5, .int (nI (i + 1))), (4, .int (nI (zn (zm M2) nn (ee + 1)))), (0, .ref h0), (1, .int (nI a)), (2, .int (nI b)), (3, .int (nI pp))]) hx hb d_X_merge_65 hl (k := 5) rfl (nI_1 _) (by decide) rfl (fun ls hl => ?_)
        refine lv_goto (tgt := 15) hx hb d_X_merge_68 (by decide) ?_
        apply ih (ls := ls) (H := H) (locs := locs) (ee := zn (zm M2) nn (ee + 1)) (i := i + 1) (f := M2) (q := q - 1) <;> first | assumption | exact lv_sub hl [2, 3, 4, 5, 1, 0] rfl | omega
set_option maxHeartbeats 4000000 in
set_option maxRecDepth 100000 in
/-- layOnePiece(k) -/
theorem c_layOnePiece (l : Launch) (dC : Nat → ClassId) (dI : Nat → Nat → Nat) (h0 h1 h2 : Nat) (cA cB : ClassId) (sz : Nat) (M S : Nat → Int32) (nv pv : Int32) (k : Nat) (g0 : 1 ≤ k) (g1 : k ≤ 16384) : Met l y_X_layOnePiece ws_X_layOnePiece ({ frames := 1, cells := 0, slots := 0, locals := 23 }) (va_Pc [.ref h0, .int (nI k)] (cc_P (dC, dI) vwCl (wX h0 h1 h2 cA cB M S nv pv) (tX cA cB) sz)) (va_Qv (S := (Nat → Int32) × (Nat → Int32)) (fun u : (Nat → Int32) × (Nat → Int32) => zCI k 1 u.1 u.2 ∧ ∀ j, j < 16384 → zm u.1 j = decide (j = 0)) (fun u t => cc_B (dC, dI) vwCl (tX cA cB) (va_A (wX h0 h1 h2 cA cB M S nv pv) sz) ((fun u : (Nat → Int32) × (Nat → Int32) => (wX h0 h1 h2 cA cB u.1 u.2 (nI k) (nI 1))) u) t) (va_A (wX h0 h1 h2 cA cB M S nv pv) sz)) 0 0 (va_A (wX h0 h1 h2 cA cB M S nv pv) sz) := by
  refine Met.ofW (cc := c_X_layOnePiece) (maxL := 2) (ret := none) (by decide) rfl ?_
  intro p e s m args below meth c s₁ B hml hv
  obtain ⟨rfl, hsz, hP, hK, hD0⟩ := hv
  have hx := B.exec
  have hb := B.bytes
  have hr := B.returns
  have hts : ∀ w ∈ zAll, w.before _ s = true := fun w h => atoms_spec (ws := ws_X_layOnePiece) B.pre w (List.mem_cons_of_mem _ h)
  have hown : s.vm.findClass RX = some m.cls := findClass_of_methodNamed B.named
  have hlocks := B.notSynchronized
  subst hsz
  have hD := hD0.self (sz := s.heap.size)
  generalize hAe : va_A (wX h0 h1 h2 cA cB M S nv pv) s.heap.size = A at hD ⊢
  have hA : ∀ q : Nat, s.heap.size ≤ q → A q := fun q h => by rw [← hAe]; exact Or.inr h
  have hS : va_S A s.heap s.heap [] := va_S.rf
  replace hP : va_P (dC, dI) vwCl [(h0, .inr (0, [.ref h1, .ref h2, .int nv, .int pv])), (h1, .inl (cA, 512, .inl M)), (h2, .inl (cB, 512, .inl S))] s.heap := hP
  replace hD : va_D A [(h0, .inr (0, [.ref h1, .ref h2, .int nv, .int pv])), (h1, .inl (cA, 512, .inl M)), (h2, .inl (cB, 512, .inl S))] := hD
  have hl := lv_entry ([.ref h0, .int (nI k)]) (n := 2) (Nat.le_of_ble_eq_true rfl)
  rw [lg_entry_eq]
  generalize (lg_sl ([.ref h0, .int (nI k)]) ++ List.replicate (2 - (lg_sl ([.ref h0, .int (nI k)])).length) Slot.unset).toArray = ls at hl ⊢
  replace hl : lv_has ls 2 [(0, .ref h0), (1, .int (nI k))] := hl
  refine lv_aload_n hx hb d_X_layOnePiece_0 rfl (lv_at hl 0 rfl) ?_
  refine va_get (D := (dC, dI)) (ci := 0) (v := .ref h1) (C := RX) (T := TX) (N := 4) hx hb hts inX hown hK hP 0 rfl rfl 0 (by decide) (hts _ wl_X_9) (fun _ h9 => h9) rfl d_X_layOnePiece_1 ?_
  refine lv_iconst (v := nI 0) hx hb d_X_layOnePiece_4 (by decide) ?_
  refine cc_Sv (wc := [(h1, .inl (cA, 512, .inl M))]) (wr := [(h0, .inr (0, [.ref h1, .ref h2, .int nv, .int pv])), (h2, .inl (cB, 512, .inl S))]) (tys' := [(cA, .int)]) ⟨hx, hb, hml, hown, hts⟩ hP hD hK hS hA [1] [0, 2] [0] rfl rfl rfl (by decide) (by decide) (by decide) rfl (k_fill l dC dI h1 cA _ 512 M (nI 0) (by decide)) (va_cwS 2 hts g_X_78 rfl rfl rfl (by decide +kernel) ⟨Nat.le_of_ble_eq_true rfl, Nat.le_of_ble_eq_true rfl⟩) rfl hl.1 rfl (Nat.le_of_ble_eq_true rfl) d_X_layOnePiece_5 ⟨Nat.le_of_ble_eq_true rfl, Nat.le_of_ble_eq_true rfl⟩ (fun M1 H locs hw1 hP hD hS => ?_)
  replace hP : va_P (dC, dI) vwCl [(h0, .inr (0, [.ref h1, .ref h2, .int nv, .int pv])), (h2, .inl (cB, 512, .inl S)), (h1, .inl (cA, 512, .inl M1))] H := hP
  replace hD : va_D A [(h0, .inr (0, [.ref h1, .ref h2, .int nv, .int pv])), (h2, .inl (cB, 512, .inl S)), (h1, .inl (cA, 512, .inl M1))] := hD
  refine lv_aload_n hx hb d_X_layOnePiece_8 rfl (lv_at hl 0 rfl) ?_
  refine va_get (D := (dC, dI)) (ci := 0) (v := .ref h2) (C := RX) (T := TX) (N := 4) hx hb hts inX hown hK hP 0 rfl rfl 1 (by decide) (hts _ wl_X_13) (fun _ h9 => h9) rfl d_X_layOnePiece_9 ?_
  refine lv_iconst (v := nI 0) hx hb d_X_layOnePiece_12 (by decide) ?_
  refine cc_Sv (wc := [(h2, .inl (cB, 512, .inl S))]) (wr := [(h0, .inr (0, [.ref h1, .ref h2, .int nv, .int pv])), (h1, .inl (cA, 512, .inl M1))]) (tys' := [(cB, .int)]) ⟨hx, hb, hml, hown, hts⟩ hP hD hK hS hA [1] [0, 2] [1] rfl rfl rfl (by decide) (by decide) (by decide) rfl (k_fill l dC dI h2 cB _ 512 S (nI 0) (by decide)) (va_cwS 2 hts g_X_78 rfl rfl rfl (by decide +kernel) ⟨Nat.le_of_ble_eq_true rfl, Nat.le_of_ble_eq_true rfl⟩) rfl hl.1 rfl (Nat.le_of_ble_eq_true rfl) d_X_layOnePiece_13 ⟨Nat.le_of_ble_eq_true rfl, Nat.le_of_ble_eq_true rfl⟩ (fun S1 H locs hw2 hP hD hS => ?_)
  replace hP : va_P (dC, dI) vwCl [(h0, .inr (0, [.ref h1, .ref h2, .int nv, .int pv])), (h1, .inl (cA, 512, .inl M1)), (h2, .inl (cB, 512, .inl S1))] H := hP
  replace hD : va_D A [(h0, .inr (0, [.ref h1, .ref h2, .int nv, .int pv])), (h1, .inl (cA, 512, .inl M1)), (h2, .inl (cB, 512, .inl S1))] := hD
  refine lv_aload_n hx hb d_X_layOnePiece_16 rfl (lv_at hl 0 rfl) ?_
  refine va_get (D := (dC, dI)) (ci := 0) (v := .ref h1) (C := RX) (T := TX) (N := 4) hx hb hts inX hown hK hP 0 rfl rfl 0 (by decide) (hts _ wl_X_9) (fun _ h9 => h9) rfl d_X_layOnePiece_17 ?_
  refine lv_iconst (v := nI 0) hx hb d_X_layOnePiece_20 (by decide) ?_
  refine lv_iconst (v := nI 1) hx hb d_X_layOnePiece_21 (by decide) ?_
  refine va_iast hx hb hK hP hD hS 1 0 rfl rfl (vp_in_nI (by omega) (by decide)) d_X_layOnePiece_22 (fun H locs hP hD hS => ?_)
  rw [nI_clamp (by omega)] at hP hD
  replace hP : va_P (dC, dI) vwCl [(h0, .inr (0, [.ref h1, .ref h2, .int nv, .int pv])), (h1, .inl (cA, 512, .inl (upd M1 0 (nI 1)))), (h2, .inl (cB, 512, .inl S1))] H := hP
  replace hD : va_D A [(h0, .inr (0, [.ref h1, .ref h2, .int nv, .int pv])), (h1, .inl (cA, 512, .inl (upd M1 0 (nI 1)))), (h2, .inl (cB, 512, .inl S1))] := hD
  refine lv_aload_n hx hb d_X_layOnePiece_23 rfl (lv_at hl 0 rfl) ?_
  refine lv_iload_n hx hb d_X_layOnePiece_24 rfl (lv_at hl 1 rfl) ?_
  refine va_put (D := (dC, dI)) (ci := 0) (v := .int (nI k)) (ty := .int) (C := RX) (T := TX) (N := 4) hx hb hts inX tyX tyX_ok nmX hown hK hP hD hS 0 rfl rfl 2 (by decide) (hts _ wl_X_27) (fun _ h9 => h9) rfl (by decide +kernel) rfl rfl (Nat.le_of_ble_eq_true rfl) d_X_layOnePiece_25 (fun H locs hP hD hS => ?_)
  replace hP : va_P (dC, dI) vwCl [(h0, .inr (0, [.ref h1, .ref h2, .int (nI k), .int pv])), (h1, .inl (cA, 512, .inl (upd M1 0 (nI 1)))), (h2, .inl (cB, 512, .inl S1))] H := hP
  replace hD : va_D A [(h0, .inr (0, [.ref h1, .ref h2, .int (nI k), .int pv])), (h1, .inl (cA, 512, .inl (upd M1 0 (nI 1)))), (h2, .inl (cB, 512, .inl S1))] := hD
  refine lv_aload_n hx hb d_X_layOnePiece_28 rfl (lv_at hl 0 rfl) ?_
  refine lv_iconst (v := nI 1) hx hb d_X_layOnePiece_29 (by decide) ?_
  refine va_put (D := (dC, dI)) (ci := 0) (v := .int (nI 1)) (ty := .int) (C := RX) (T := TX) (N := 4) hx hb hts inX tyX tyX_ok nmX hown hK hP hD hS 0 rfl rfl 3 (by decide) (hts _ wl_X_53) (fun _ h9 => h9) rfl (by decide +kernel) rfl rfl (Nat.le_of_ble_eq_true rfl) d_X_layOnePiece_30 (fun H locs hP hD hS => ?_)
  replace hP : va_P (dC, dI) vwCl [(h0, .inr (0, [.ref h1, .ref h2, .int (nI k), .int (nI 1)])), (h1, .inl (cA, 512, .inl (upd M1 0 (nI 1)))), (h2, .inl (cB, 512, .inl S1))] H := hP
  replace hD : va_D A [(h0, .inr (0, [.ref h1, .ref h2, .int (nI k), .int (nI 1)])), (h1, .inl (cA, 512, .inl (upd M1 0 (nI 1)))), (h2, .inl (cB, 512, .inl S1))] := hD
  replace hP := hP.sub (ws' := [(h0, .inr (0, [.ref h1, .ref h2, .int (nI k), .int (nI 1)])), (h1, .inl (cA, 512, .inl (upd M1 0 (nI 1)))), (h2, .inl (cB, 512, .inl S1))]) [0, 1, 2] rfl
  replace hD := hD.sub (ws' := [(h0, .inr (0, [.ref h1, .ref h2, .int (nI k), .int (nI 1)])), (h1, .inl (cA, 512, .inl (upd M1 0 (nI 1)))), (h2, .inl (cB, 512, .inl S1))]) [0, 1, 2] (by decide) rfl
  exact W.vret hx hb hr (fun t9 ht9 hW9 => ⟨⟨(upd M1 0 (nI 1), S1), rfl, z_lay g0 g1 hw1 hw2, by rw [ht9]; exact hP, va_K.moved hW9.alike hK, hD⟩, hS.F ht9⟩) hS.2.2 d_X_layOnePiece_33
set_option maxHeartbeats 4000000 in
set_option maxRecDepth 100000 in
/-- outermostSize(g) -/
theorem c_outermostSize (l : Launch) (dC : Nat → ClassId) (dI : Nat → Nat → Nat) (h0 h1 h2 : Nat) (cA cB : ClassId) (sz : Nat) (M S : Nat → Int32) (nn pp : Nat) (g9 : Bool) (g0 : zCI nn pp M S) : Met l y_X_outermostSize ws_X_outermostSize ({ frames := 3, cells := 0, slots := 0, locals := 67 }) (va_Pc [.ref h0, .int (if g9 then 1 else 0)] (cc_P (dC, dI) vwCl (wX h0 h1 h2 cA cB M S (nI nn) (nI pp)) (tX cA cB) sz)) (va_Qi (S := Unit) (fun (r : Int32) (_ : Unit) => r = nI (zF (if g9 then max else min) (zm M) nn (pp - 1) (zn (zm M) nn 1) (zn (zm M) nn 1))) (fun u t => cc_B (dC, dI) vwCl (tX cA cB) (va_A (wX h0 h1 h2 cA cB M S (nI nn) (nI pp)) sz) ((fun _ : Unit => (wX h0 h1 h2 cA cB M S (nI nn) (nI pp))) u) t) (va_A (wX h0 h1 h2 cA cB M S (nI nn) (nI pp)) sz)) 0 0 (va_A (wX h0 h1 h2 cA cB M S (nI nn) (nI pp)) sz) := by
  refine Met.ofW (cc := c_X_outermostSize) (maxL := 7) (ret := (some .int)) (by decide) rfl ?_
  intro p e s m args below meth c s₁ B hml hv
  obtain ⟨rfl, hsz, hP, hK, hD0⟩ := hv
  have hx := B.exec
  have hb := B.bytes
  have hr := B.returns
  have hts : ∀ w ∈ zAll, w.before _ s = true := fun w h => atoms_spec (ws := ws_X_outermostSize) B.pre w (List.mem_cons_of_mem _ h)
  have hown : s.vm.findClass RX = some m.cls := findClass_of_methodNamed B.named
  have hlocks := B.notSynchronized
  subst hsz
  have hD := hD0.self (sz := s.heap.size)
  generalize hAe : va_A (wX h0 h1 h2 cA cB M S (nI nn) (nI pp)) s.heap.size = A at hD ⊢
  have hA : ∀ q : Nat, s.heap.size ≤ q → A q := fun q h => by rw [← hAe]; exact Or.inr h
  have hS : va_S A s.heap s.heap [] := va_S.rf
  replace hP : va_P (dC, dI) vwCl [(h0, .inr (0, [.ref h1, .ref h2, .int (nI nn), .int (nI pp)])), (h1, .inl (cA, 512, .inl M)), (h2, .inl (cB, 512, .inl S))] s.heap := hP
  replace hD : va_D A [(h0, .inr (0, [.ref h1, .ref h2, .int (nI nn), .int (nI pp)])), (h1, .inl (cA, 512, .inl M)), (h2, .inl (cB, 512, .inl S))] := hD
  have hl := lv_entry ([.ref h0, .int (if g9 then 1 else 0)]) (n := 7) (Nat.le_of_ble_eq_true rfl)
  rw [lg_entry_eq]
  generalize (lg_sl ([.ref h0, .int (if g9 then 1 else 0)]) ++ List.replicate (7 - (lg_sl ([.ref h0, .int (if g9 then 1 else 0)])).length) Slot.unset).toArray = ls at hl ⊢
  replace hl : lv_has ls 7 [(0, .ref h0), (1, .int (if g9 then 1 else 0))] := hl
  have gi := g0
  obtain ⟨i1, i2, i3, i4, i5, i6⟩ := gi
  have hpp : pp < 16385 := by (rw [i5]; have := zc_le (zm M) nn; omega)
  have hp1 : 1 ≤ pp := by (rw [i5]; exact zc_pos (show 0 < nn by omega) i3)
  refine lv_aload_n hx hb d_X_outermostSize_0 rfl (lv_at hl 0 rfl) ?_
  refine lv_iconst (v := nI 0) hx hb d_X_outermostSize_1 (by decide) ?_
  refine cc_Vi (wc := [(h0, .inr (0, [.ref h1, .ref h2, .int (nI nn), .int (nI pp)])), (h1, .inl (cA, 512, .inl M)), (h2, .inl (cB, 512, .inl S))]) (wr := []) (tys' := [(cA, .int), (cB, .int)]) ⟨hx, hb, hml, hown, hts⟩ hP hD hK hS hA [0, 1, 2] [] [0, 1] rfl rfl rfl (by decide) (by decide) (by decide) rfl (c_endOf l dC dI h0 h1 h2 cA cB _ M S nn (nI pp) 0 (by omega) i2 i4) (cwV 1 hts g_X_41 rfl rfl rfl (by decide +kernel) ⟨Nat.le_of_ble_eq_true rfl, Nat.le_of_ble_eq_true rfl⟩) 0 0 rfl rfl rfl rfl hl.1 rfl (Nat.le_of_ble_eq_true rfl) d_X_outermostSize_2 ⟨Nat.le_of_ble_eq_true rfl, Nat.le_of_ble_eq_true rfl⟩ (fun r_9 u H locs hw hP hD hS => ?_)
  replace hP : va_P (dC, dI) vwCl [(h0, .inr (0, [.ref h1, .ref h2, .int (nI nn), .int (nI pp)])), (h1, .inl (cA, 512, .inl M)), (h2, .inl (cB, 512, .inl S))] H := hP
  replace hD : va_D A [(h0, .inr (0, [.ref h1, .ref h2, .int (nI nn), .int (nI pp)])), (h1, .inl (cA, 512, .inl M)), (h2, .inl (cB, 512, .inl S))] := hD
  subst hw
  refine lv_istore_n (lv' := [(2, .int (nI (zn (zm M) nn (0 + 1)))), (0, .ref h0), (1, .int (if g9 then 1 else 0))]) hx hb d_X_outermostSize_5 rfl hl (by decide) rfl (fun ls hl => ?_)
  refine lv_iload_n hx hb d_X_outermostSize_6 rfl (lv_at hl 0 rfl) ?_
  refine lv_istore_n (lv' := [(3, .int (nI (zn (zm M) nn (0 + 1)))), (2, .int (nI (zn (zm M) nn (0 + 1)))), (0, .ref h0), (1, .int (if g9 then 1 else 0))]) hx hb d_X_outermostSize_7 rfl hl (by decide) rfl (fun ls hl => ?_)
  refine lv_iconst (v := nI 1) hx hb d_X_outermostSize_8 (by decide) ?_
  refine lv_istore (lv' := [(4, .int (nI 1)), (3, .int (nI (zn (zm M) nn (0 + 1)))), (2, .int (nI (zn (zm M) nn (0 + 1)))), (0, .ref h0), (1, .int (if g9 then 1 else 0))]) hx hb d_X_outermostSize_9 hl (by decide) rfl (fun ls hl => ?_)
  refine cc_from hP hD hS (fun H locs hP hD hS => ?_)
  obtain ⟨ac, e_ac⟩ : ∃ ac : Nat, ac = zn (zm M) nn (0 + 1) := ⟨_, rfl⟩
  obtain ⟨fr, e_fr⟩ : ∃ fr : Nat, fr = zn (zm M) nn (0 + 1) := ⟨_, rfl⟩
  obtain ⟨i, e_i⟩ : ∃ i : Nat, i = 1 := ⟨_, rfl⟩
  replace hl : lv_has ls 7 [(0, .ref h0), (1, .int (if g9 then 1 else 0)), (2, .int (nI ac)), (3, .int (nI fr)), (4, .int (nI i))] := by (subst e_ac; subst e_fr; subst e_i; exact lv_sub hl [3, 4, 2, 1, 0] rfl)
  have k1 : fr ≤ nn := by (subst e_ac; subst e_fr; subst e_i; exact zn_le (by omega))
  have k2 : fr = nn ∨ zm M fr = true := by (subst e_ac; subst e_fr; subst e_i; exact z_nxo (by omega))
  have k3 : zc (zm M) fr = i := by (subst e_ac; subst e_fr; subst e_i; exact (zc_next i3 (by omega)).trans rfl)
  have k4 : zF (if g9 then max else min) (zm M) nn (pp - i) fr ac = zF (if g9 then max else min) (zm M) nn (pp - 1) (zn (zm M) nn 1) (zn (zm M) nn 1) := by (subst e_ac; subst e_fr; subst e_i; rfl)
  have k5 : ac ≤ nn := by (subst e_ac; subst e_fr; subst e_i; exact zn_le (by omega))
  have k6 : i ≤ pp := by (subst e_ac; subst e_fr; subst e_i; exact hp1)
  clear e_ac e_fr e_i
  obtain ⟨f9, hf9⟩ : ∃ f9 : Nat, pp - i < f9 := ⟨_, Nat.lt_succ_self _⟩
  induction f9 generalizing ls H locs ac fr i with
  | zero => exact absurd hf9 (Nat.not_lt_zero _)
  | succ f9 ih =>
    refine lv_iload hx hb d_X_outermostSize_11 (lv_at hl 4 rfl) ?_
    refine lv_aload_n hx hb d_X_outermostSize_13 rfl (lv_at hl 0 rfl) ?_
    refine va_get (D := (dC, dI)) (ci := 0) (v := .int (nI pp)) (C := RX) (T := TX) (N := 4) hx hb hts inX hown hK hP 0 rfl rfl 3 (by decide) (hts _ wl_X_53) (fun _ h9 => h9) rfl d_X_outermostSize_14 ?_
    refine lv_icmp_ge (tgt := 62) hx hb d_X_outermostSize_17 (by decide) (fun c1 => ?_) (fun c1 => ?_)
    · replace c1 : pp ≤ i := (nI_leI (a := pp) (b := i) (by omega) (by omega)).mp c1
      refine lv_iload_n hx hb d_X_outermostSize_62 rfl (lv_at hl 2 rfl) ?_
      exact W.iret (v := nI ac) hx hb hr (fun t9 ht9 hW9 => ⟨⟨nI ac, (), rfl, by (rw [← k4, show pp - i = 0 by omega]; rfl), by rw [ht9]; exact hP, va_K.moved hW9.alike hK, hD⟩, hS.F ht9⟩) hS.2.2 d_X_outermostSize_63
    · replace c1 : ¬ (pp ≤ i) := fun h9 => c1 ((nI_leI (a := pp) (b := i) (by omega) (by omega)).mpr h9)
      have hlt : fr < nn := (Nat.lt_or_ge fr nn).elim id (fun z => absurd k3 (by rw [show fr = nn by omega, ← i5]; omega))
      have hon : zm M fr = true := k2.elim (fun z => absurd z (by omega)) id
      refine lv_aload_n hx hb d_X_outermostSize_20 rfl (lv_at hl 0 rfl) ?_
      refine lv_iload_n hx hb d_X_outermostSize_21 rfl (lv_at hl 3 rfl) ?_
      refine cc_Vi (wc := [(h0, .inr (0, [.ref h1, .ref h2, .int (nI nn), .int (nI pp)])), (h1, .inl (cA, 512, .inl M)), (h2, .inl (cB, 512, .inl S))]) (wr := []) (tys' := [(cA, .int), (cB, .int)]) ⟨hx, hb, hml, hown, hts⟩ hP hD hK hS hA [0, 1, 2] [] [0, 1] rfl rfl rfl (by decide) (by decide) (by decide) rfl (c_endOf l dC dI h0 h1 h2 cA cB _ M S nn (nI pp) fr hlt i2 i4) (cwV 1 hts g_X_41 rfl rfl rfl (by decide +kernel) ⟨Nat.le_of_ble_eq_true rfl, Nat.le_of_ble_eq_true rfl⟩) 0 0 rfl rfl rfl rfl hl.1 rfl (Nat.le_of_ble_eq_true rfl) d_X_outermostSize_22 ⟨Nat.le_of_ble_eq_true rfl, Nat.le_of_ble_eq_true rfl⟩ (fun r_9 u H locs hw hP hD hS => ?_)
      replace hP : va_P (dC, dI) vwCl [(h0, .inr (0, [.ref h1, .ref h2, .int (nI nn), .int (nI pp)])), (h1, .inl (cA, 512, .inl M)), (h2, .inl (cB, 512, .inl S))] H := hP
      replace hD : va_D A [(h0, .inr (0, [.ref h1, .ref h2, .int (nI nn), .int (nI pp)])), (h1, .inl (cA, 512, .inl M)), (h2, .inl (cB, 512, .inl S))] := hD
      subst hw
      have e1 := zn_ge (zm M) nn (fr + 1)
      have e2 : zn (zm M) nn (fr + 1) ≤ nn := zn_le (by omega)
      have e3 : zn (zm M) nn (fr + 1) = nn ∨ zm M (zn (zm M) nn (fr + 1)) = true := z_nxo (by omega)
      have e4 : zc (zm M) (zn (zm M) nn (fr + 1)) = i + 1 := by (rw [← k3]; exact zc_next hon hlt)
      refine lv_istore (lv' := [(5, .int (nI (zn (zm M) nn (fr + 1)))), (0, .ref h0), (1, .int (if g9 then 1 else 0)), (2, .int (nI ac)), (3, .int (nI fr)), (4, .int (nI i))]) hx hb d_X_outermostSize_25 hl (by decide) rfl (fun ls hl => ?_)
      refine lv_iload hx hb d_X_outermostSize_27 (lv_at hl 0 rfl) ?_
      refine lv_iload_n hx hb d_X_outermostSize_29 rfl (lv_at hl 4 rfl) ?_
      refine lv_isub hx hb d_X_outermostSize_30 ?_
      refine lv_topi (nm_r (show _ = nI ((zn (zm M) nn (fr + 1)) - fr) from pk_sub (by omega)) ?_)
      refine lv_istore (lv' := [(6, .int (nI ((zn (zm M) nn (fr + 1)) - fr))), (5, .int (nI (zn (zm M) nn (fr + 1)))), (0, .ref h0), (1, .int (if g9 then 1 else 0)), (2, .int (nI ac)), (3, .int (nI fr)), (4, .int (nI i))]) hx hb d_X_outermostSize_31 hl (by decide) rfl (fun ls hl => ?_)
      refine lv_iload_n hx hb d_X_outermostSize_33 rfl (lv_at hl 3 rfl) ?_
      refine lv_if_eq (tgt := 46) hx hb d_X_outermostSize_34 (by decide) (fun c2 => ?_) (fun c2 => ?_)
      · have eg : g9 = false := by (cases g9 <;> first | rfl | exact absurd rfl c2 | exact absurd c2 (by decide))
        subst eg
        refine lv_iload_n hx hb d_X_outermostSize_46 rfl (lv_at hl 4 rfl) ?_
        refine lv_iload hx hb d_X_outermostSize_47 (lv_at hl 0 rfl) ?_
        refine va_mmin hx hb (hml.trans hl.1.symm) hown (hts _ wl_X_105) (hts _ wst_min) (hts _ win_Math) (hts _ wc_min) (by decide) (by decide) (by decide) (by decide) d_X_outermostSize_49 ?_
        refine lv_topi (nm_r (show _ = nI (min ac ((zn (zm M) nn (fr + 1)) - fr)) from z_min (by omega) (by omega)) ?_)
        refine lv_istore_n (lv' := [(2, .int (nI (min ac ((zn (zm M) nn (fr + 1)) - fr)))), (6, .int (nI ((zn (zm M) nn (fr + 1)) - fr))), (5, .int (nI (zn (zm M) nn (fr + 1)))), (0, .ref h0), (1, .int (if false then 1 else 0)), (3, .int (nI fr)), (4, .int (nI i))]) hx hb d_X_outermostSize_52 rfl hl (by decide) rfl (fun ls hl => ?_)
        refine lv_iload hx hb d_X_outermostSize_53 (lv_at hl 2 rfl) ?_
        refine lv_istore_n (lv' := [(3, .int (nI (zn (zm M) nn (fr + 1)))), (2, .int (nI (min ac ((zn (zm M) nn (fr + 1)) - fr)))), (6, .int (nI ((zn (zm M) nn (fr + 1)) - fr))), (5, .int (nI (zn (zm M) nn (fr + 1)))), (0, .ref h0), (1, .int (if false then 1 else 0)), (4, .int (nI i))]) hx hb d_X_outermostSize_55 rfl hl (by decide) rfl (fun ls hl => ?_)
        refine lv_iinc (v := nI (i + 1)) (lv' := [(4, .int (nI (i + 1))), (3, .int (nI (zn (zm M) nn (fr + 1)))), (2, .int (nI (min ac ((zn (zm M) nn (fr + 1)) - fr)))), (6, .int (nI ((zn (zm M) nn (fr + 1)) - fr))), (5, .int (nI (zn (zm M) nn (fr + 1)))), (0, .ref h0), (1, .int (if false then 1 else 0))]) hx hb d_X_outermostSize_56 hl (k := 6) rfl (nI_1 _) (by decide) rfl (fun ls hl => ?_)
        refine lv_goto (tgt := 11) hx hb d_X_outermostSize_59 (by decide) ?_
        have e5 : zF (if false then max else min) (zm M) nn (pp - (i + 1)) (zn (zm M) nn (fr + 1)) (min ac ((zn (zm M) nn (fr + 1)) - fr)) = zF (if false then max else min) (zm M) nn (pp - 1) (zn (zm M) nn 1) (zn (zm M) nn 1) := by (rw [← k4, show pp - i = (pp - (i + 1)) + 1 by omega]; rfl)
        have e6 : min ac ((zn (zm M) nn (fr + 1)) - fr) ≤ nn := by omega
        apply ih (ls := ls) (H := H) (locs := locs) (ac := min ac ((zn (zm M) nn (fr + 1)) - fr)) (fr := zn (zm M) nn (fr + 1)) (i := i + 1) <;> first | assumption | exact lv_sub hl [5, 6, 2, 1, 0] rfl | omega
      · have eg : g9 = true := by (cases g9 <;> first | rfl | exact absurd rfl c2 | exact absurd c2 (by decide))
        subst eg
        refine lv_iload_n hx hb d_X_outermostSize_37 rfl (lv_at hl 4 rfl) ?_
        refine lv_iload hx hb d_X_outermostSize_38 (lv_at hl 0 rfl) ?_
        refine va_mmax hx hb (hml.trans hl.1.symm) hown (hts _ wl_X_99) (hts _ wst_max) (hts _ win_Math) (hts _ wc_max) (by decide) (by decide) (by decide) (by decide) d_X_outermostSize_40 ?_
        refine lv_topi (nm_r (show _ = nI (max ac ((zn (zm M) nn (fr + 1)) - fr)) from z_max (by omega) (by omega)) ?_)
        refine lv_goto (tgt := 52) hx hb d_X_outermostSize_43 (by decide) ?_
        refine lv_istore_n (lv' := [(2, .int (nI (max ac ((zn (zm M) nn (fr + 1)) - fr)))), (6, .int (nI ((zn (zm M) nn (fr + 1)) - fr))), (5, .int (nI (zn (zm M) nn (fr + 1)))), (0, .ref h0), (1, .int (if true then 1 else 0)), (3, .int (nI fr)), (4, .int (nI i))]) hx hb d_X_outermostSize_52 rfl hl (by decide) rfl (fun ls hl => ?_)
        refine lv_iload hx hb d_X_outermostSize_53 (lv_at hl 2 rfl) ?_
        refine lv_istore_n (lv' := [(3, .int (nI (zn (zm M) nn (fr + 1)))), (2, .int (nI (max ac ((zn (zm M) nn (fr + 1)) - fr)))), (6, .int (nI ((zn (zm M) nn (fr + 1)) - fr))), (5, .int (nI (zn (zm M) nn (fr + 1)))), (0, .ref h0), (1, .int (if true then 1 else 0)), (4, .int (nI i))]) hx hb d_X_outermostSize_55 rfl hl (by decide) rfl (fun ls hl => ?_)
        refine lv_iinc (v := nI (i + 1)) (lv' := [(4, .int (nI (i + 1))), (3, .int (nI (zn (zm M) nn (fr + 1)))), (2, .int (nI (max ac ((zn (zm M) nn (fr + 1)) - fr)))), (6, .int (nI ((zn (zm M) nn (fr + 1)) - fr))), (5, .int (nI (zn (zm M) nn (fr + 1)))), (0, .ref h0), (1, .int (if true then 1 else 0))]) hx hb d_X_outermostSize_56 hl (k := 6) rfl (nI_1 _) (by decide) rfl (fun ls hl => ?_)
        refine lv_goto (tgt := 11) hx hb d_X_outermostSize_59 (by decide) ?_
        have e5 : zF (if true then max else min) (zm M) nn (pp - (i + 1)) (zn (zm M) nn (fr + 1)) (max ac ((zn (zm M) nn (fr + 1)) - fr)) = zF (if true then max else min) (zm M) nn (pp - 1) (zn (zm M) nn 1) (zn (zm M) nn 1) := by (rw [← k4, show pp - i = (pp - (i + 1)) + 1 by omega]; rfl)
        have e6 : max ac ((zn (zm M) nn (fr + 1)) - fr) ≤ nn := by omega
        apply ih (ls := ls) (H := H) (locs := locs) (ac := max ac ((zn (zm M) nn (fr + 1)) - fr)) (fr := zn (zm M) nn (fr + 1)) (i := i + 1) <;> first | assumption | exact lv_sub hl [5, 6, 2, 1, 0] rfl | omega
