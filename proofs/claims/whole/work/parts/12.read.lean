set_option maxHeartbeats 4000000 in
set_option maxRecDepth 100000 in
/-- bitOf(k) -/
theorem c_bitOf (l : Launch) (dC : Nat → ClassId) (dI : Nat → Nat → Nat)  (sz : Nat) (k : Nat) (g0 : k < 2147483648) : Met l y_X_bitOf ws_X_bitOf ({ frames := 0, cells := 0, slots := 0, locals := 0 }) (va_Pc [.int (nI k)] (cc_P (dC, dI) vwCl ([] : va_W) [] sz)) (va_Qi (S := Unit) (fun (r : Int32) (_ : Unit) => r = (1 : Int32) <<< (nI (k % 32) &&& 31)) (fun u t => cc_B (dC, dI) vwCl [] (va_A ([] : va_W) sz) ((fun _ : Unit => ([] : va_W)) u) t) (va_A ([] : va_W) sz)) 0 0 (va_A ([] : va_W) sz) := by
  refine Met.ofW (cc := c_X_bitOf) (maxL := 1) (ret := (some .int)) (by decide) rfl ?_
  intro p e s m args below meth c s₁ B hml hv
  obtain ⟨rfl, hsz, hP, hK, hD0⟩ := hv
  have hx := B.exec
  have hb := B.bytes
  have hr := B.returns
  have hts : ∀ w ∈ zAll, w.before _ s = true := fun w h => atoms_spec (ws := ws_X_bitOf) B.pre w (List.mem_cons_of_mem _ h)
  have hown : s.vm.findClass RX = some m.cls := findClass_of_methodNamed B.named
  have hlocks := B.notSynchronized
  subst hsz
  have hD := hD0.self (sz := s.heap.size)
  generalize hAe : va_A ([] : va_W) s.heap.size = A at hD ⊢
  have hA : ∀ q : Nat, s.heap.size ≤ q → A q := fun q h => by rw [← hAe]; exact Or.inr h
  have hS : va_S A s.heap s.heap [] := va_S.rf
  replace hP : va_P (dC, dI) vwCl [] s.heap := hP
  replace hD : va_D A [] := hD
  have hl := lv_entry ([.int (nI k)]) (n := 1) (Nat.le_of_ble_eq_true rfl)
  rw [lg_entry_eq]
  generalize (lg_sl ([.int (nI k)]) ++ List.replicate (1 - (lg_sl ([.int (nI k)])).length) Slot.unset).toArray = ls at hl ⊢
  replace hl : lv_has ls 1 [(0, .int (nI k))] := hl
  refine lv_iconst (v := (1 : Int32)) hx hb d_X_bitOf_0 (by decide) ?_
  refine lv_iload_n hx hb d_X_bitOf_1 rfl (lv_at hl 0 rfl) ?_
  refine lv_bipush (v := nI 32) hx hb d_X_bitOf_2 (by decide) ?_
  refine lv_irem hx hb d_X_bitOf_4 (by decide) ?_
  refine lv_topi (nm_r (show _ = nI (k % 32) from pk_rem (by omega) (by omega) (by omega)) ?_)
  refine lv_ishl hx hb d_X_bitOf_5 ?_
  exact W.iret (v := (1 : Int32) <<< ((nI (k % 32)) &&& 31)) hx hb hr (fun t9 ht9 hW9 => ⟨⟨(1 : Int32) <<< ((nI (k % 32)) &&& 31), (), rfl, rfl, by rw [ht9]; exact hP, va_K.moved hW9.alike hK, hD⟩, hS.F ht9⟩) hS.2.2 d_X_bitOf_6
set_option maxHeartbeats 4000000 in
set_option maxRecDepth 100000 in
/-- cardCount() -/
theorem c_cardCount (l : Launch) (dC : Nat → ClassId) (dI : Nat → Nat → Nat) (h0 h1 h2 : Nat) (cA cB : ClassId) (sz : Nat) (M S : Nat → Int32) (nn : Nat) (pv : Int32) (g0 : nn ≤ 16384) : Met l y_X_cardCount ws_X_cardCount ({ frames := 0, cells := 0, slots := 0, locals := 0 }) (va_Pc [.ref h0] (cc_P (dC, dI) vwCl (wX h0 h1 h2 cA cB M S (nI nn) pv) (tX cA cB) sz)) (va_Qi (S := Unit) (fun (r : Int32) (_ : Unit) => r = nI ((nn + 31) / 32)) (fun u t => cc_B (dC, dI) vwCl (tX cA cB) (va_A (wX h0 h1 h2 cA cB M S (nI nn) pv) sz) ((fun _ : Unit => (wX h0 h1 h2 cA cB M S (nI nn) pv)) u) t) (va_A (wX h0 h1 h2 cA cB M S (nI nn) pv) sz)) 0 0 (va_A (wX h0 h1 h2 cA cB M S (nI nn) pv) sz) := by
  refine Met.ofW (cc := c_X_cardCount) (maxL := 1) (ret := (some .int)) (by decide) rfl ?_
  intro p e s m args below meth c s₁ B hml hv
  obtain ⟨rfl, hsz, hP, hK, hD0⟩ := hv
  have hx := B.exec
  have hb := B.bytes
  have hr := B.returns
  have hts : ∀ w ∈ zAll, w.before _ s = true := fun w h => atoms_spec (ws := ws_X_cardCount) B.pre w (List.mem_cons_of_mem _ h)
  have hown : s.vm.findClass RX = some m.cls := findClass_of_methodNamed B.named
  have hlocks := B.notSynchronized
  subst hsz
  have hD := hD0.self (sz := s.heap.size)
  generalize hAe : va_A (wX h0 h1 h2 cA cB M S (nI nn) pv) s.heap.size = A at hD ⊢
  have hA : ∀ q : Nat, s.heap.size ≤ q → A q := fun q h => by rw [← hAe]; exact Or.inr h
  have hS : va_S A s.heap s.heap [] := va_S.rf
  replace hP : va_P (dC, dI) vwCl [(h0, .inr (0, [.ref h1, .ref h2, .int (nI nn), .int pv])), (h1, .inl (cA, 512, .inl M)), (h2, .inl (cB, 512, .inl S))] s.heap := hP
  replace hD : va_D A [(h0, .inr (0, [.ref h1, .ref h2, .int (nI nn), .int pv])), (h1, .inl (cA, 512, .inl M)), (h2, .inl (cB, 512, .inl S))] := hD
  have hl := lv_entry ([.ref h0]) (n := 1) (Nat.le_of_ble_eq_true rfl)
  rw [lg_entry_eq]
  generalize (lg_sl ([.ref h0]) ++ List.replicate (1 - (lg_sl ([.ref h0])).length) Slot.unset).toArray = ls at hl ⊢
  replace hl : lv_has ls 1 [(0, .ref h0)] := hl
  refine lv_aload_n hx hb d_X_cardCount_0 rfl (lv_at hl 0 rfl) ?_
  refine va_get (D := (dC, dI)) (ci := 0) (v := .int (nI nn)) (C := RX) (T := TX) (N := 4) hx hb hts inX hown hK hP 0 rfl rfl 2 (by decide) (hts _ wl_X_27) (fun _ h9 => h9) rfl d_X_cardCount_1 ?_
  refine lv_bipush (v := nI 32) hx hb d_X_cardCount_4 (by decide) ?_
  refine lv_iadd hx hb d_X_cardCount_6 ?_
  refine lv_topi (nm_r (show _ = nI (nn + 32) from nI_add _ _) ?_)
  refine lv_iconst (v := nI 1) hx hb d_X_cardCount_7 (by decide) ?_
  refine lv_isub hx hb d_X_cardCount_8 ?_
  refine lv_topi (nm_r (show _ = nI ((nn + 32) - 1) from pk_sub (by omega)) ?_)
  refine lv_bipush (v := nI 32) hx hb d_X_cardCount_9 (by decide) ?_
  refine lv_idiv hx hb d_X_cardCount_11 (by decide) ?_
  refine lv_topi (nm_r (show _ = nI (((nn + 32) - 1) / 32) from pk_div (by omega) (by omega) (by omega)) ?_)
  exact W.iret (v := nI (((nn + 32) - 1) / 32)) hx hb hr (fun t9 ht9 hW9 => ⟨⟨nI (((nn + 32) - 1) / 32), (), rfl, congrArg nI (by omega), by rw [ht9]; exact hP, va_K.moved hW9.alike hK, hD⟩, hS.F ht9⟩) hS.2.2 d_X_cardCount_12
set_option maxHeartbeats 4000000 in
set_option maxRecDepth 100000 in
/-- beginOf(k) -/
theorem c_beginOf (l : Launch) (dC : Nat → ClassId) (dI : Nat → Nat → Nat) (h0 h1 h2 : Nat) (cA cB : ClassId) (sz : Nat) (M S : Nat → Int32) (nn : Nat) (pv : Int32) (k : Nat) (g0 : k < 16384) (g1 : zm M 0 = true) (g2 : S (k / 32) = nI (zb (zm M) (32 * (k / 32)))) : Met l y_X_beginOf ws_X_beginOf ({ frames := 1, cells := 0, slots := 0, locals := 21 }) (va_Pc [.ref h0, .int (nI k)] (cc_P (dC, dI) vwCl (wX h0 h1 h2 cA cB M S (nI nn) pv) (tX cA cB) sz)) (va_Qi (S := Unit) (fun (r : Int32) (_ : Unit) => r = nI (zb (zm M) k)) (fun u t => cc_B (dC, dI) vwCl (tX cA cB) (va_A (wX h0 h1 h2 cA cB M S (nI nn) pv) sz) ((fun _ : Unit => (wX h0 h1 h2 cA cB M S (nI nn) pv)) u) t) (va_A (wX h0 h1 h2 cA cB M S (nI nn) pv) sz)) 0 0 (va_A (wX h0 h1 h2 cA cB M S (nI nn) pv) sz) := by
  refine Met.ofW (cc := c_X_beginOf) (maxL := 5) (ret := (some .int)) (by decide) rfl ?_
  intro p e s m args below meth c s₁ B hml hv
  obtain ⟨rfl, hsz, hP, hK, hD0⟩ := hv
  have hx := B.exec
  have hb := B.bytes
  have hr := B.returns
  have hts : ∀ w ∈ zAll, w.before _ s = true := fun w h => atoms_spec (ws := ws_X_beginOf) B.pre w (List.mem_cons_of_mem _ h)
  have hown : s.vm.findClass RX = some m.cls := findClass_of_methodNamed B.named
  have hlocks := B.notSynchronized
  subst hsz
  have hD := hD0.self (sz := s.heap.size)
  generalize hAe : va_A (wX h0 h1 h2 cA cB M S (nI nn) pv) s.heap.size = A at hD ⊢
  have hA : ∀ q : Nat, s.heap.size ≤ q → A q := fun q h => by rw [← hAe]; exact Or.inr h
  have hS : va_S A s.heap s.heap [] := va_S.rf
  replace hP : va_P (dC, dI) vwCl [(h0, .inr (0, [.ref h1, .ref h2, .int (nI nn), .int pv])), (h1, .inl (cA, 512, .inl M)), (h2, .inl (cB, 512, .inl S))] s.heap := hP
  replace hD : va_D A [(h0, .inr (0, [.ref h1, .ref h2, .int (nI nn), .int pv])), (h1, .inl (cA, 512, .inl M)), (h2, .inl (cB, 512, .inl S))] := hD
  have hl := lv_entry ([.ref h0, .int (nI k)]) (n := 5) (Nat.le_of_ble_eq_true rfl)
  rw [lg_entry_eq]
  generalize (lg_sl ([.ref h0, .int (nI k)]) ++ List.replicate (5 - (lg_sl ([.ref h0, .int (nI k)])).length) Slot.unset).toArray = ls at hl ⊢
  replace hl : lv_has ls 5 [(0, .ref h0), (1, .int (nI k))] := hl
  refine lv_iload_n hx hb d_X_beginOf_0 rfl (lv_at hl 1 rfl) ?_
  refine lv_bipush (v := nI 32) hx hb d_X_beginOf_1 (by decide) ?_
  refine lv_idiv hx hb d_X_beginOf_3 (by decide) ?_
  refine lv_topi (nm_r (show _ = nI (k / 32) from pk_div (by omega) (by omega) (by omega)) ?_)
  refine lv_istore_n (lv' := [(2, .int (nI (k / 32))), (0, .ref h0), (1, .int (nI k))]) hx hb d_X_beginOf_4 rfl hl (by decide) rfl (fun ls hl => ?_)
  refine lv_iconst (v := (-1 : Int32)) hx hb d_X_beginOf_5 (by decide) ?_
  refine lv_bipush (v := nI 31) hx hb d_X_beginOf_6 (by decide) ?_
  refine lv_iload_n hx hb d_X_beginOf_8 rfl (lv_at hl 2 rfl) ?_
  refine lv_bipush (v := nI 32) hx hb d_X_beginOf_9 (by decide) ?_
  refine lv_irem hx hb d_X_beginOf_11 (by decide) ?_
  refine lv_topi (nm_r (show _ = nI (k % 32) from pk_rem (by omega) (by omega) (by omega)) ?_)
  refine lv_isub hx hb d_X_beginOf_12 ?_
  refine lv_topi (nm_r (show _ = nI (31 - (k % 32)) from pk_sub (by omega)) ?_)
  refine lv_iushr (v := zu (-1 : Int32) (nI (31 - (k % 32)))) hx hb d_X_beginOf_13 rfl ?_
  refine lv_istore_n (lv' := [(3, .int (zu (-1 : Int32) (nI (31 - (k % 32))))), (2, .int (nI (k / 32))), (0, .ref h0), (1, .int (nI k))]) hx hb d_X_beginOf_14 rfl hl (by decide) rfl (fun ls hl => ?_)
  refine lv_aload_n hx hb d_X_beginOf_15 rfl (lv_at hl 2 rfl) ?_
  refine va_get (D := (dC, dI)) (ci := 0) (v := .ref h1) (C := RX) (T := TX) (N := 4) hx hb hts inX hown hK hP 0 rfl rfl 0 (by decide) (hts _ wl_X_9) (fun _ h9 => h9) rfl d_X_beginOf_16 ?_
  refine lv_iload_n hx hb d_X_beginOf_19 rfl (lv_at hl 1 rfl) ?_
  refine va_iald hx hb hK hP 1 0 rfl rfl (vp_in_nI (by omega) (by decide)) d_X_beginOf_20 ?_
  refine lv_topi (nm_r (show _ = M (k / 32) from by rw [nI_clamp (by omega)]) ?_)
  refine lv_iload_n hx hb d_X_beginOf_21 rfl (lv_at hl 0 rfl) ?_
  refine lv_iand hx hb d_X_beginOf_22 ?_
  refine lv_istore (lv' := [(4, .int ((M (k / 32)) &&& (zu (-1 : Int32) (nI (31 - (k % 32)))))), (3, .int (zu (-1 : Int32) (nI (31 - (k % 32))))), (2, .int (nI (k / 32))), (0, .ref h0), (1, .int (nI k))]) hx hb d_X_beginOf_23 hl (by decide) rfl (fun ls hl => ?_)
  refine lv_iload hx hb d_X_beginOf_25 (lv_at hl 0 rfl) ?_
  refine lv_if_ne (tgt := 37) hx hb d_X_beginOf_27 (by decide) (fun c1 => ?_) (fun c1 => ?_)
  · obtain ⟨t, t1, t2, t3⟩ := z_top c1
    refine lv_iload_n hx hb d_X_beginOf_37 rfl (lv_at hl 2 rfl) ?_
    refine lv_bipush (v := nI 32) hx hb d_X_beginOf_38 (by decide) ?_
    refine lv_imul hx hb d_X_beginOf_40 ?_
    refine lv_topi (nm_r (show _ = nI ((k / 32) * 32) from pk_mul _ _) ?_)
    refine lv_bipush (v := nI 32) hx hb d_X_beginOf_41 (by decide) ?_
    refine lv_iadd hx hb d_X_beginOf_43 ?_
    refine lv_topi (nm_r (show _ = nI (((k / 32) * 32) + 32) from nI_add _ _) ?_)
    refine lv_iconst (v := nI 1) hx hb d_X_beginOf_44 (by decide) ?_
    refine lv_isub hx hb d_X_beginOf_45 ?_
    refine lv_topi (nm_r (show _ = nI ((((k / 32) * 32) + 32) - 1) from pk_sub (by omega)) ?_)
    refine lv_iload hx hb d_X_beginOf_46 (lv_at hl 0 rfl) ?_
    refine cc_Si (wc := []) (wr := [(h0, .inr (0, [.ref h1, .ref h2, .int (nI nn), .int pv])), (h1, .inl (cA, 512, .inl M)), (h2, .inl (cB, 512, .inl S))]) (tys' := []) ⟨hx, hb, hml, hown, hts⟩ hP hD hK hS hA [] [0, 1, 2] [] rfl rfl rfl (by decide) (by decide) (by decide) rfl (k_nlz l dC dI _ _ t t1 t2 t3) (va_cwS 1 hts g_X_84 rfl rfl rfl (by decide +kernel) ⟨Nat.le_of_ble_eq_true rfl, Nat.le_of_ble_eq_true rfl⟩) rfl hl.1 rfl (Nat.le_of_ble_eq_true rfl) d_X_beginOf_48 ⟨Nat.le_of_ble_eq_true rfl, Nat.le_of_ble_eq_true rfl⟩ (fun r_9 u H locs hw hP hD hS => ?_)
    replace hP : va_P (dC, dI) vwCl [(h0, .inr (0, [.ref h1, .ref h2, .int (nI nn), .int pv])), (h1, .inl (cA, 512, .inl M)), (h2, .inl (cB, 512, .inl S))] H := hP
    replace hD : va_D A [(h0, .inr (0, [.ref h1, .ref h2, .int (nI nn), .int pv])), (h1, .inl (cA, 512, .inl M)), (h2, .inl (cB, 512, .inl S))] := hD
    subst hw
    refine lv_isub hx hb d_X_beginOf_51 ?_
    refine lv_topi (nm_r (show _ = nI (((((k / 32) * 32) + 32) - 1) - (31 - t)) from pk_sub (by omega)) ?_)
    exact W.iret (v := nI (((((k / 32) * 32) + 32) - 1) - (31 - t))) hx hb hr (fun t9 ht9 hW9 => ⟨⟨nI (((((k / 32) * 32) + 32) - 1) - (31 - t)), (), rfl, congrArg nI (by have z9 := z_beg1 t1 t2 t3; omega), by rw [ht9]; exact hP, va_K.moved hW9.alike hK, hD⟩, hS.F ht9⟩) hS.2.2 d_X_beginOf_52
  · refine lv_aload_n hx hb d_X_beginOf_30 rfl (lv_at hl 3 rfl) ?_
    refine va_get (D := (dC, dI)) (ci := 0) (v := .ref h2) (C := RX) (T := TX) (N := 4) hx hb hts inX hown hK hP 0 rfl rfl 1 (by decide) (hts _ wl_X_13) (fun _ h9 => h9) rfl d_X_beginOf_31 ?_
    refine lv_iload_n hx hb d_X_beginOf_34 rfl (lv_at hl 2 rfl) ?_
    refine va_iald hx hb hK hP 2 1 rfl rfl (vp_in_nI (by omega) (by decide)) d_X_beginOf_35 ?_
    refine lv_topi (nm_r (show _ = S (k / 32) from by rw [nI_clamp (by omega)]) ?_)
    exact W.iret (v := S (k / 32)) hx hb hr (fun t9 ht9 hW9 => ⟨⟨S (k / 32), (), rfl, g2.trans (congrArg nI (z_beg0 g1 c1).symm), by rw [ht9]; exact hP, va_K.moved hW9.alike hK, hD⟩, hS.F ht9⟩) hS.2.2 d_X_beginOf_36
set_option maxHeartbeats 4000000 in
set_option maxRecDepth 100000 in
/-- firstBeginFrom(k) -/
theorem c_firstBeginFrom (l : Launch) (dC : Nat → ClassId) (dI : Nat → Nat → Nat) (h0 h1 h2 : Nat) (cA cB : ClassId) (sz : Nat) (M S : Nat → Int32) (nn : Nat) (pv : Int32) (k : Nat) (g0 : k ≤ nn) (g1 : nn ≤ 16384) (g2 : ∀ j, nn ≤ j → j < 16384 → zm M j = false) : Met l y_X_firstBeginFrom ws_X_firstBeginFrom ({ frames := 1, cells := 0, slots := 0, locals := 21 }) (va_Pc [.ref h0, .int (nI k)] (cc_P (dC, dI) vwCl (wX h0 h1 h2 cA cB M S (nI nn) pv) (tX cA cB) sz)) (va_Qi (S := Unit) (fun (r : Int32) (_ : Unit) => r = nI (zn (zm M) nn k)) (fun u t => cc_B (dC, dI) vwCl (tX cA cB) (va_A (wX h0 h1 h2 cA cB M S (nI nn) pv) sz) ((fun _ : Unit => (wX h0 h1 h2 cA cB M S (nI nn) pv)) u) t) (va_A (wX h0 h1 h2 cA cB M S (nI nn) pv) sz)) 0 0 (va_A (wX h0 h1 h2 cA cB M S (nI nn) pv) sz) := by
  refine Met.ofW (cc := c_X_firstBeginFrom) (maxL := 6) (ret := (some .int)) (by decide) rfl ?_
  intro p e s m args below meth c s₁ B hml hv
  obtain ⟨rfl, hsz, hP, hK, hD0⟩ := hv
  have hx := B.exec
  have hb := B.bytes
  have hr := B.returns
  have hts : ∀ w ∈ zAll, w.before _ s = true := fun w h => atoms_spec (ws := ws_X_firstBeginFrom) B.pre w (List.mem_cons_of_mem _ h)
  have hown : s.vm.findClass RX = some m.cls := findClass_of_methodNamed B.named
  have hlocks := B.notSynchronized
  subst hsz
  have hD := hD0.self (sz := s.heap.size)
  generalize hAe : va_A (wX h0 h1 h2 cA cB M S (nI nn) pv) s.heap.size = A at hD ⊢
  have hA : ∀ q : Nat, s.heap.size ≤ q → A q := fun q h => by rw [← hAe]; exact Or.inr h
  have hS : va_S A s.heap s.heap [] := va_S.rf
  replace hP : va_P (dC, dI) vwCl [(h0, .inr (0, [.ref h1, .ref h2, .int (nI nn), .int pv])), (h1, .inl (cA, 512, .inl M)), (h2, .inl (cB, 512, .inl S))] s.heap := hP
  replace hD : va_D A [(h0, .inr (0, [.ref h1, .ref h2, .int (nI nn), .int pv])), (h1, .inl (cA, 512, .inl M)), (h2, .inl (cB, 512, .inl S))] := hD
  have hl := lv_entry ([.ref h0, .int (nI k)]) (n := 6) (Nat.le_of_ble_eq_true rfl)
  rw [lg_entry_eq]
  generalize (lg_sl ([.ref h0, .int (nI k)]) ++ List.replicate (6 - (lg_sl ([.ref h0, .int (nI k)])).length) Slot.unset).toArray = ls at hl ⊢
  replace hl : lv_has ls 6 [(0, .ref h0), (1, .int (nI k))] := hl
  refine lv_iconst (v := (-1 : Int32)) hx hb d_X_firstBeginFrom_0 (by decide) ?_
  refine lv_iload_n hx hb d_X_firstBeginFrom_1 rfl (lv_at hl 1 rfl) ?_
  refine lv_bipush (v := nI 32) hx hb d_X_firstBeginFrom_2 (by decide) ?_
  refine lv_irem hx hb d_X_firstBeginFrom_4 (by decide) ?_
  refine lv_topi (nm_r (show _ = nI (k % 32) from pk_rem (by omega) (by omega) (by omega)) ?_)
  refine lv_ishl hx hb d_X_firstBeginFrom_5 ?_
  refine lv_istore_n (lv' := [(2, .int ((-1 : Int32) <<< ((nI (k % 32)) &&& 31))), (0, .ref h0), (1, .int (nI k))]) hx hb d_X_firstBeginFrom_6 rfl hl (by decide) rfl (fun ls hl => ?_)
  refine lv_aload_n hx hb d_X_firstBeginFrom_7 rfl (lv_at hl 1 rfl) ?_
  refine cc_Vi (wc := [(h0, .inr (0, [.ref h1, .ref h2, .int (nI nn), .int pv])), (h1, .inl (cA, 512, .inl M)), (h2, .inl (cB, 512, .inl S))]) (wr := []) (tys' := [(cA, .int), (cB, .int)]) ⟨hx, hb, hml, hown, hts⟩ hP hD hK hS hA [0, 1, 2] [] [0, 1] rfl rfl rfl (by decide) (by decide) (by decide) rfl (c_cardCount l dC dI h0 h1 h2 cA cB _ M S nn pv g1) (cwV 0 hts g_X_64 rfl rfl rfl (by decide +kernel) ⟨Nat.le_of_ble_eq_true rfl, Nat.le_of_ble_eq_true rfl⟩) 0 0 rfl rfl rfl rfl hl.1 rfl (Nat.le_of_ble_eq_true rfl) d_X_firstBeginFrom_8 ⟨Nat.le_of_ble_eq_true rfl, Nat.le_of_ble_eq_true rfl⟩ (fun r_9 u H locs hw hP hD hS => ?_)
  replace hP : va_P (dC, dI) vwCl [(h0, .inr (0, [.ref h1, .ref h2, .int (nI nn), .int pv])), (h1, .inl (cA, 512, .inl M)), (h2, .inl (cB, 512, .inl S))] H := hP
  replace hD : va_D A [(h0, .inr (0, [.ref h1, .ref h2, .int (nI nn), .int pv])), (h1, .inl (cA, 512, .inl M)), (h2, .inl (cB, 512, .inl S))] := hD
  subst hw
  refine lv_istore_n (lv' := [(3, .int (nI ((nn + 31) / 32))), (2, .int ((-1 : Int32) <<< ((nI (k % 32)) &&& 31))), (0, .ref h0), (1, .int (nI k))]) hx hb d_X_firstBeginFrom_11 rfl hl (by decide) rfl (fun ls hl => ?_)
  refine lv_iload_n hx hb d_X_firstBeginFrom_12 rfl (lv_at hl 3 rfl) ?_
  refine lv_bipush (v := nI 32) hx hb d_X_firstBeginFrom_13 (by decide) ?_
  refine lv_idiv hx hb d_X_firstBeginFrom_15 (by decide) ?_
  refine lv_topi (nm_r (show _ = nI (k / 32) from pk_div (by omega) (by omega) (by omega)) ?_)
  refine lv_istore (lv' := [(4, .int (nI (k / 32))), (3, .int (nI ((nn + 31) / 32))), (2, .int ((-1 : Int32) <<< ((nI (k % 32)) &&& 31))), (0, .ref h0), (1, .int (nI k))]) hx hb d_X_firstBeginFrom_16 hl (by decide) rfl (fun ls hl => ?_)
  refine cc_from hP hD hS (fun H locs hP hD hS => ?_)
  obtain ⟨card, e_card⟩ : ∃ card : Nat, card = k / 32 := ⟨_, rfl⟩
  obtain ⟨wv, e_wv⟩ : ∃ wv : Int32, wv = (-1 : Int32) <<< ((nI (k % 32)) &&& 31) := ⟨_, rfl⟩
  replace hl : lv_has ls 6 [(0, .ref h0), (1, .int (nI k)), (2, .int wv), (3, .int (nI ((nn + 31) / 32))), (4, .int (nI card))] := by (subst e_card; subst e_wv; exact lv_sub hl [3, 4, 2, 1, 0] rfl)
  have hI : zI M k card wv := by (subst e_card; subst e_wv; exact zI_0 M k)
  have hcd : card ≤ 513 := by (subst e_card; subst e_wv; omega)
  clear e_card e_wv
  obtain ⟨f9, hf9⟩ : ∃ f9 : Nat, 600 - card < f9 := ⟨_, Nat.lt_succ_self _⟩
  induction f9 generalizing ls H locs card wv with
  | zero => exact absurd hf9 (Nat.not_lt_zero _)
  | succ f9 ih =>
    refine lv_iload hx hb d_X_firstBeginFrom_18 (lv_at hl 4 rfl) ?_
    refine lv_iload_n hx hb d_X_firstBeginFrom_20 rfl (lv_at hl 3 rfl) ?_
    refine lv_icmp_ge (tgt := 60) hx hb d_X_firstBeginFrom_21 (by decide) (fun c1 => ?_) (fun c1 => ?_)
    · replace c1 : (nn + 31) / 32 ≤ card := (nI_leI (a := (nn + 31) / 32) (b := card) (by omega) (by omega)).mp c1
      refine lv_aload_n hx hb d_X_firstBeginFrom_60 rfl (lv_at hl 0 rfl) ?_
      refine va_get (D := (dC, dI)) (ci := 0) (v := .int (nI nn)) (C := RX) (T := TX) (N := 4) hx hb hts inX hown hK hP 0 rfl rfl 2 (by decide) (hts _ wl_X_27) (fun _ h9 => h9) rfl d_X_firstBeginFrom_61 ?_
      exact W.iret (v := nI nn) hx hb hr (fun t9 ht9 hW9 => ⟨⟨nI nn, (), rfl, congrArg nI (zI_end hI g0 c1).symm, by rw [ht9]; exact hP, va_K.moved hW9.alike hK, hD⟩, hS.F ht9⟩) hS.2.2 d_X_firstBeginFrom_64
    · replace c1 : ¬ ((nn + 31) / 32 ≤ card) := fun h9 => c1 ((nI_leI (a := (nn + 31) / 32) (b := card) (by omega) (by omega)).mpr h9)
      refine lv_aload_n hx hb d_X_firstBeginFrom_24 rfl (lv_at hl 0 rfl) ?_
      refine va_get (D := (dC, dI)) (ci := 0) (v := .ref h1) (C := RX) (T := TX) (N := 4) hx hb hts inX hown hK hP 0 rfl rfl 0 (by decide) (hts _ wl_X_9) (fun _ h9 => h9) rfl d_X_firstBeginFrom_25 ?_
      refine lv_iload hx hb d_X_firstBeginFrom_28 (lv_at hl 4 rfl) ?_
      refine va_iald hx hb hK hP 1 0 rfl rfl (vp_in_nI (by omega) (by decide)) d_X_firstBeginFrom_30 ?_
      refine lv_topi (nm_r (show _ = M card from by rw [nI_clamp (by omega)]) ?_)
      refine lv_iload_n hx hb d_X_firstBeginFrom_31 rfl (lv_at hl 2 rfl) ?_
      refine lv_iand hx hb d_X_firstBeginFrom_32 ?_
      refine lv_istore (lv' := [(5, .int ((M card) &&& wv)), (0, .ref h0), (1, .int (nI k)), (2, .int wv), (3, .int (nI ((nn + 31) / 32))), (4, .int (nI card))]) hx hb d_X_firstBeginFrom_33 hl (by decide) rfl (fun ls hl => ?_)
      refine lv_iload hx hb d_X_firstBeginFrom_35 (lv_at hl 0 rfl) ?_
      refine lv_if_eq (tgt := 52) hx hb d_X_firstBeginFrom_37 (by decide) (fun c2 => ?_) (fun c2 => ?_)
      · have hI2 : zI M k (card + 1) (-1) := zI_s hI c2
        refine lv_iconst (v := (-1 : Int32)) hx hb d_X_firstBeginFrom_52 (by decide) ?_
        refine lv_istore_n (lv' := [(2, .int (-1 : Int32)), (5, .int ((M card) &&& wv)), (0, .ref h0), (1, .int (nI k)), (3, .int (nI ((nn + 31) / 32))), (4, .int (nI card))]) hx hb d_X_firstBeginFrom_53 rfl hl (by decide) rfl (fun ls hl => ?_)
        refine lv_iinc (v := nI (card + 1)) (lv' := [(4, .int (nI (card + 1))), (2, .int (-1 : Int32)), (5, .int ((M card) &&& wv)), (0, .ref h0), (1, .int (nI k)), (3, .int (nI ((nn + 31) / 32)))]) hx hb d_X_firstBeginFrom_54 hl (k := 5) rfl (nI_1 _) (by decide) rfl (fun ls hl => ?_)
        refine lv_goto (tgt := 18) hx hb d_X_firstBeginFrom_57 (by decide) ?_
        apply ih (ls := ls) (H := H) (locs := locs) (card := card + 1) (wv := -1) <;> first | assumption | exact lv_sub hl [3, 4, 1, 5, 0] rfl | omega
      · obtain ⟨t, t1, t2, t3⟩ := z_low c2
        refine lv_iload hx hb d_X_firstBeginFrom_40 (lv_at hl 5 rfl) ?_
        refine lv_bipush (v := nI 32) hx hb d_X_firstBeginFrom_42 (by decide) ?_
        refine lv_imul hx hb d_X_firstBeginFrom_44 ?_
        refine lv_topi (nm_r (show _ = nI (card * 32) from pk_mul _ _) ?_)
        refine lv_iload hx hb d_X_firstBeginFrom_45 (lv_at hl 0 rfl) ?_
        refine cc_Si (wc := []) (wr := [(h0, .inr (0, [.ref h1, .ref h2, .int (nI nn), .int pv])), (h1, .inl (cA, 512, .inl M)), (h2, .inl (cB, 512, .inl S))]) (tys' := []) ⟨hx, hb, hml, hown, hts⟩ hP hD hK hS hA [] [0, 1, 2] [] rfl rfl rfl (by decide) (by decide) (by decide) rfl (k_ntz l dC dI _ _ t t1 t2 t3) (va_cwS 1 hts g_X_90 rfl rfl rfl (by decide +kernel) ⟨Nat.le_of_ble_eq_true rfl, Nat.le_of_ble_eq_true rfl⟩) rfl hl.1 rfl (Nat.le_of_ble_eq_true rfl) d_X_firstBeginFrom_47 ⟨Nat.le_of_ble_eq_true rfl, Nat.le_of_ble_eq_true rfl⟩ (fun r_9 u H locs hw hP hD hS => ?_)
        replace hP : va_P (dC, dI) vwCl [(h0, .inr (0, [.ref h1, .ref h2, .int (nI nn), .int pv])), (h1, .inl (cA, 512, .inl M)), (h2, .inl (cB, 512, .inl S))] H := hP
        replace hD : va_D A [(h0, .inr (0, [.ref h1, .ref h2, .int (nI nn), .int pv])), (h1, .inl (cA, 512, .inl M)), (h2, .inl (cB, 512, .inl S))] := hD
        subst hw
        refine lv_iadd hx hb d_X_firstBeginFrom_50 ?_
        refine lv_topi (nm_r (show _ = nI ((card * 32) + t) from nI_add _ _) ?_)
        exact W.iret (v := nI ((card * 32) + t)) hx hb hr (fun t9 ht9 hW9 => ⟨⟨nI ((card * 32) + t), (), rfl, congrArg nI (by have z9 := (zI_hit hI g0 (by omega) g2 t1 t2 t3).1; omega), by rw [ht9]; exact hP, va_K.moved hW9.alike hK, hD⟩, hS.F ht9⟩) hS.2.2 d_X_firstBeginFrom_51
set_option maxHeartbeats 4000000 in
set_option maxRecDepth 100000 in
/-- endOf(k) -/
theorem c_endOf (l : Launch) (dC : Nat → ClassId) (dI : Nat → Nat → Nat) (h0 h1 h2 : Nat) (cA cB : ClassId) (sz : Nat) (M S : Nat → Int32) (nn : Nat) (pv : Int32) (k : Nat) (g0 : k < nn) (g1 : nn ≤ 16384) (g2 : ∀ j, nn ≤ j → j < 16384 → zm M j = false) : Met l y_X_endOf ws_X_endOf ({ frames := 2, cells := 0, slots := 0, locals := 46 }) (va_Pc [.ref h0, .int (nI k)] (cc_P (dC, dI) vwCl (wX h0 h1 h2 cA cB M S (nI nn) pv) (tX cA cB) sz)) (va_Qi (S := Unit) (fun (r : Int32) (_ : Unit) => r = nI (zn (zm M) nn (k + 1))) (fun u t => cc_B (dC, dI) vwCl (tX cA cB) (va_A (wX h0 h1 h2 cA cB M S (nI nn) pv) sz) ((fun _ : Unit => (wX h0 h1 h2 cA cB M S (nI nn) pv)) u) t) (va_A (wX h0 h1 h2 cA cB M S (nI nn) pv) sz)) 0 0 (va_A (wX h0 h1 h2 cA cB M S (nI nn) pv) sz) := by
  refine Met.ofW (cc := c_X_endOf) (maxL := 2) (ret := (some .int)) (by decide) rfl ?_
  intro p e s m args below meth c s₁ B hml hv
  obtain ⟨rfl, hsz, hP, hK, hD0⟩ := hv
  have hx := B.exec
  have hb := B.bytes
  have hr := B.returns
  have hts : ∀ w ∈ zAll, w.before _ s = true := fun w h => atoms_spec (ws := ws_X_endOf) B.pre w (List.mem_cons_of_mem _ h)
  have hown : s.vm.findClass RX = some m.cls := findClass_of_methodNamed B.named
  have hlocks := B.notSynchronized
  subst hsz
  have hD := hD0.self (sz := s.heap.size)
  generalize hAe : va_A (wX h0 h1 h2 cA cB M S (nI nn) pv) s.heap.size = A at hD ⊢
  have hA : ∀ q : Nat, s.heap.size ≤ q → A q := fun q h => by rw [← hAe]; exact Or.inr h
  have hS : va_S A s.heap s.heap [] := va_S.rf
  replace hP : va_P (dC, dI) vwCl [(h0, .inr (0, [.ref h1, .ref h2, .int (nI nn), .int pv])), (h1, .inl (cA, 512, .inl M)), (h2, .inl (cB, 512, .inl S))] s.heap := hP
  replace hD : va_D A [(h0, .inr (0, [.ref h1, .ref h2, .int (nI nn), .int pv])), (h1, .inl (cA, 512, .inl M)), (h2, .inl (cB, 512, .inl S))] := hD
  have hl := lv_entry ([.ref h0, .int (nI k)]) (n := 2) (Nat.le_of_ble_eq_true rfl)
  rw [lg_entry_eq]
  generalize (lg_sl ([.ref h0, .int (nI k)]) ++ List.replicate (2 - (lg_sl ([.ref h0, .int (nI k)])).length) Slot.unset).toArray = ls at hl ⊢
  replace hl : lv_has ls 2 [(0, .ref h0), (1, .int (nI k))] := hl
  refine lv_aload_n hx hb d_X_endOf_0 rfl (lv_at hl 0 rfl) ?_
  refine lv_iload_n hx hb d_X_endOf_1 rfl (lv_at hl 1 rfl) ?_
  refine lv_iconst (v := nI 1) hx hb d_X_endOf_2 (by decide) ?_
  refine lv_iadd hx hb d_X_endOf_3 ?_
  refine lv_topi (nm_r (show _ = nI (k + 1) from nI_add _ _) ?_)
  refine cc_Vi (wc := [(h0, .inr (0, [.ref h1, .ref h2, .int (nI nn), .int pv])), (h1, .inl (cA, 512, .inl M)), (h2, .inl (cB, 512, .inl S))]) (wr := []) (tys' := [(cA, .int), (cB, .int)]) ⟨hx, hb, hml, hown, hts⟩ hP hD hK hS hA [0, 1, 2] [] [0, 1] rfl rfl rfl (by decide) (by decide) (by decide) rfl (c_firstBeginFrom l dC dI h0 h1 h2 cA cB _ M S nn pv (k + 1) (by omega) g1 g2) (cwV 1 hts g_X_87 rfl rfl rfl (by decide +kernel) ⟨Nat.le_of_ble_eq_true rfl, Nat.le_of_ble_eq_true rfl⟩) 0 0 rfl rfl rfl rfl hl.1 rfl (Nat.le_of_ble_eq_true rfl) d_X_endOf_4 ⟨Nat.le_of_ble_eq_true rfl, Nat.le_of_ble_eq_true rfl⟩ (fun r_9 u H locs hw hP hD hS => ?_)
  replace hP : va_P (dC, dI) vwCl [(h0, .inr (0, [.ref h1, .ref h2, .int (nI nn), .int pv])), (h1, .inl (cA, 512, .inl M)), (h2, .inl (cB, 512, .inl S))] H := hP
  replace hD : va_D A [(h0, .inr (0, [.ref h1, .ref h2, .int (nI nn), .int pv])), (h1, .inl (cA, 512, .inl M)), (h2, .inl (cB, 512, .inl S))] := hD
  subst hw
  exact W.iret (v := nI (zn (zm M) nn (k + 1))) hx hb hr (fun t9 ht9 hW9 => ⟨⟨nI (zn (zm M) nn (k + 1)), (), rfl, rfl, by rw [ht9]; exact hP, va_K.moved hW9.alike hK, hD⟩, hS.F ht9⟩) hS.2.2 d_X_endOf_7
set_option maxHeartbeats 4000000 in
set_option maxRecDepth 100000 in
/-- tellStarts(a, b) -/
theorem c_tellStarts (l : Launch) (dC : Nat → ClassId) (dI : Nat → Nat → Nat) (h0 h1 h2 : Nat) (cA cB : ClassId) (sz : Nat) (M S : Nat → Int32) (nv pv : Int32) (a b : Nat) (g0 : a ≤ b) (g1 : b ≤ 16384) : Met l y_X_tellStarts ws_X_tellStarts ({ frames := 0, cells := 0, slots := 0, locals := 0 }) (va_Pc [.ref h0, .int (nI a), .int (nI b)] (cc_P (dC, dI) vwCl (wX h0 h1 h2 cA cB M S nv pv) (tX cA cB) sz)) (va_Qv (S := Nat → Int32) (fun u : Nat → Int32 => zT S a b u) (fun u t => cc_B (dC, dI) vwCl (tX cA cB) (va_A (wX h0 h1 h2 cA cB M S nv pv) sz) ((fun u : Nat → Int32 => (wX h0 h1 h2 cA cB M u nv pv)) u) t) (va_A (wX h0 h1 h2 cA cB M S nv pv) sz)) 0 0 (va_A (wX h0 h1 h2 cA cB M S nv pv) sz) := by
  refine Met.ofW (cc := c_X_tellStarts) (maxL := 6) (ret := none) (by decide) rfl ?_
  intro p e s m args below meth c s₁ B hml hv
  obtain ⟨rfl, hsz, hP, hK, hD0⟩ := hv
  have hx := B.exec
  have hb := B.bytes
  have hr := B.returns
  have hts : ∀ w ∈ zAll, w.before _ s = true := fun w h => atoms_spec (ws := ws_X_tellStarts) B.pre w (List.mem_cons_of_mem _ h)
  have hown : s.vm.findClass RX = some m.cls := findClass_of_methodNamed B.named
  have hlocks := B.notSynchronized
  subst hsz
  have hD := hD0.self (sz := s.heap.size)
  generalize hAe : va_A (wX h0 h1 h2 cA cB M S nv pv) s.heap.size = A at hD ⊢
  have hA : ∀ q : Nat, s.heap.size ≤ q → A q := fun q h => by rw [← hAe]; exact Or.inr h
  have hS : va_S A s.heap s.heap [] := va_S.rf
  replace hP : va_P (dC, dI) vwCl [(h0, .inr (0, [.ref h1, .ref h2, .int nv, .int pv])), (h1, .inl (cA, 512, .inl M)), (h2, .inl (cB, 512, .inl S))] s.heap := hP
  replace hD : va_D A [(h0, .inr (0, [.ref h1, .ref h2, .int nv, .int pv])), (h1, .inl (cA, 512, .inl M)), (h2, .inl (cB, 512, .inl S))] := hD
  have hl := lv_entry ([.ref h0, .int (nI a), .int (nI b)]) (n := 6) (Nat.le_of_ble_eq_true rfl)
  rw [lg_entry_eq]
  generalize (lg_sl ([.ref h0, .int (nI a), .int (nI b)]) ++ List.replicate (6 - (lg_sl ([.ref h0, .int (nI a), .int (nI b)])).length) Slot.unset).toArray = ls at hl ⊢
  replace hl : lv_has ls 6 [(0, .ref h0), (1, .int (nI a)), (2, .int (nI b))] := hl
  refine lv_iload_n hx hb d_X_tellStarts_0 rfl (lv_at hl 1 rfl) ?_
  refine lv_bipush (v := nI 32) hx hb d_X_tellStarts_1 (by decide) ?_
  refine lv_iadd hx hb d_X_tellStarts_3 ?_
  refine lv_topi (nm_r (show _ = nI (a + 32) from nI_add _ _) ?_)
  refine lv_iconst (v := nI 1) hx hb d_X_tellStarts_4 (by decide) ?_
  refine lv_isub hx hb d_X_tellStarts_5 ?_
  refine lv_topi (nm_r (show _ = nI ((a + 32) - 1) from pk_sub (by omega)) ?_)
  refine lv_bipush (v := nI 32) hx hb d_X_tellStarts_6 (by decide) ?_
  refine lv_idiv hx hb d_X_tellStarts_8 (by decide) ?_
  refine lv_topi (nm_r (show _ = nI (((a + 32) - 1) / 32) from pk_div (by omega) (by omega) (by omega)) ?_)
  refine lv_istore_n (lv' := [(3, .int (nI (((a + 32) - 1) / 32))), (0, .ref h0), (1, .int (nI a)), (2, .int (nI b))]) hx hb d_X_tellStarts_9 rfl hl (by decide) rfl (fun ls hl => ?_)
  refine lv_iload_n hx hb d_X_tellStarts_10 rfl (lv_at hl 3 rfl) ?_
  refine lv_bipush (v := nI 32) hx hb d_X_tellStarts_11 (by decide) ?_
  refine lv_iadd hx hb d_X_tellStarts_13 ?_
  refine lv_topi (nm_r (show _ = nI (b + 32) from nI_add _ _) ?_)
  refine lv_iconst (v := nI 1) hx hb d_X_tellStarts_14 (by decide) ?_
  refine lv_isub hx hb d_X_tellStarts_15 ?_
  refine lv_topi (nm_r (show _ = nI ((b + 32) - 1) from pk_sub (by omega)) ?_)
  refine lv_bipush (v := nI 32) hx hb d_X_tellStarts_16 (by decide) ?_
  refine lv_idiv hx hb d_X_tellStarts_18 (by decide) ?_
  refine lv_topi (nm_r (show _ = nI (((b + 32) - 1) / 32) from pk_div (by omega) (by omega) (by omega)) ?_)
  refine lv_istore (lv' := [(4, .int (nI (((b + 32) - 1) / 32))), (3, .int (nI (((a + 32) - 1) / 32))), (0, .ref h0), (1, .int (nI a)), (2, .int (nI b))]) hx hb d_X_tellStarts_19 hl (by decide) rfl (fun ls hl => ?_)
  refine lv_iload_n hx hb d_X_tellStarts_21 rfl (lv_at hl 1 rfl) ?_
  refine lv_istore (lv' := [(5, .int (nI (((a + 32) - 1) / 32))), (4, .int (nI (((b + 32) - 1) / 32))), (3, .int (nI (((a + 32) - 1) / 32))), (0, .ref h0), (1, .int (nI a)), (2, .int (nI b))]) hx hb d_X_tellStarts_22 hl (by decide) rfl (fun ls hl => ?_)
  refine cc_from hP hD hS (fun H locs hP hD hS => ?_)
  obtain ⟨cd, e_cd⟩ : ∃ cd : Nat, cd = (a + 31) / 32 := ⟨_, rfl⟩
  obtain ⟨f, e_f⟩ : ∃ f : Nat → Int32, f = S := ⟨_, rfl⟩
  replace hl : lv_has ls 6 [(0, .ref h0), (1, .int (nI a)), (2, .int (nI b)), (3, .int (nI ((a + 31) / 32))), (4, .int (nI ((b + 31) / 32))), (5, .int (nI cd))] := by (subst e_cd; subst e_f; exact lv_sub hl [3, 4, 5, 2, 1, 0] rfl)
  replace hP : va_P (dC, dI) vwCl [(h0, .inr (0, [.ref h1, .ref h2, .int nv, .int pv])), (h1, .inl (cA, 512, .inl M)), (h2, .inl (cB, 512, .inl f))] H := by (subst e_cd; subst e_f; exact hP)
  replace hD : va_D A [(h0, .inr (0, [.ref h1, .ref h2, .int nv, .int pv])), (h1, .inl (cA, 512, .inl M)), (h2, .inl (cB, 512, .inl f))] := by (subst e_cd; subst e_f; exact hD)
  have hc : (a + 31) / 32 ≤ cd := by (subst e_cd; subst e_f; exact Nat.le_refl _)
  have hc2 : cd ≤ (b + 31) / 32 := by (subst e_cd; subst e_f; omega)
  have hT : ∀ j, j < 512 → f j = if a ≤ 32 * j ∧ j < cd then nI a else S j := by (subst e_cd; subst e_f; exact fun j hj => by rw [if_neg (by omega)])
  clear e_cd e_f
  obtain ⟨f9, hf9⟩ : ∃ f9 : Nat, (b + 31) / 32 - cd < f9 := ⟨_, Nat.lt_succ_self _⟩
  induction f9 generalizing ls H locs cd f with
  | zero => exact absurd hf9 (Nat.not_lt_zero _)
  | succ f9 ih =>
    refine lv_iload hx hb d_X_tellStarts_24 (lv_at hl 5 rfl) ?_
    refine lv_iload hx hb d_X_tellStarts_26 (lv_at hl 4 rfl) ?_
    refine lv_icmp_ge (tgt := 45) hx hb d_X_tellStarts_28 (by decide) (fun c1 => ?_) (fun c1 => ?_)
    · replace c1 : (b + 31) / 32 ≤ cd := (nI_leI (a := (b + 31) / 32) (b := cd) (by omega) (by omega)).mp c1
      have hT3 : zT S a b f := fun j hj => by
        rw [hT j hj]
        by_cases q : a ≤ 32 * j ∧ 32 * j < b
        · rw [if_pos q, if_pos (by omega)]
        · rw [if_neg q, if_neg (by omega)]
      exact W.vret hx hb hr (fun t9 ht9 hW9 => ⟨⟨f, rfl, hT3, by rw [ht9]; exact hP, va_K.moved hW9.alike hK, hD⟩, hS.F ht9⟩) hS.2.2 d_X_tellStarts_45
    · replace c1 : ¬ ((b + 31) / 32 ≤ cd) := fun h9 => c1 ((nI_leI (a := (b + 31) / 32) (b := cd) (by omega) (by omega)).mpr h9)
      have hlt : cd < 512 := by omega
      have hT2 : ∀ j, j < 512 → upd f cd (nI a) j = if a ≤ 32 * j ∧ j < cd + 1 then nI a else S j := fun j hj => by
        by_cases q : j = cd
        · rw [q, pk_us, if_pos (by omega)]
        · rw [pk_un q, hT j hj]
          by_cases z : a ≤ 32 * j ∧ j < cd
          · rw [if_pos z, if_pos (by omega)]
          · rw [if_neg z, if_neg (by omega)]
      refine lv_aload_n hx hb d_X_tellStarts_31 rfl (lv_at hl 0 rfl) ?_
      refine va_get (D := (dC, dI)) (ci := 0) (v := .ref h2) (C := RX) (T := TX) (N := 4) hx hb hts inX hown hK hP 0 rfl rfl 1 (by decide) (hts _ wl_X_13) (fun _ h9 => h9) rfl d_X_tellStarts_32 ?_
      refine lv_iload hx hb d_X_tellStarts_35 (lv_at hl 5 rfl) ?_
      refine lv_iload_n hx hb d_X_tellStarts_37 rfl (lv_at hl 1 rfl) ?_
      refine va_iast hx hb hK hP hD hS 2 1 rfl rfl (vp_in_nI (by omega) (by decide)) d_X_tellStarts_38 (fun H locs hP hD hS => ?_)
      rw [nI_clamp (by omega)] at hP hD
      replace hP : va_P (dC, dI) vwCl [(h0, .inr (0, [.ref h1, .ref h2, .int nv, .int pv])), (h1, .inl (cA, 512, .inl M)), (h2, .inl (cB, 512, .inl (upd f cd (nI a))))] H := hP
      replace hD : va_D A [(h0, .inr (0, [.ref h1, .ref h2, .int nv, .int pv])), (h1, .inl (cA, 512, .inl M)), (h2, .inl (cB, 512, .inl (upd f cd (nI a))))] := hD
      refine lv_iinc (v := nI (cd + 1)) (lv' := [(5, .int (nI (cd + 1))), (0, .ref h0), (1, .int (nI a)), (2, .int (nI b)), (3, .int (nI ((a + 31) / 32))), (4, .int (nI ((b + 31) / 32)))]) hx hb d_X_tellStarts_39 hl (k := 5) rfl (nI_1 _) (by decide) rfl (fun ls hl => ?_)
      refine lv_goto (tgt := 24) hx hb d_X_tellStarts_42 (by decide) ?_
      apply ih (ls := ls) (H := H) (locs := locs) (cd := cd + 1) (f := upd f cd (nI a)) <;> first | assumption | exact lv_sub hl [1, 2, 3, 4, 5, 0] rfl | omega
