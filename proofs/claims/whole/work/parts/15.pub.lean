set_option maxHeartbeats 4000000 in
set_option maxRecDepth 100000 in
/-- begin(x) -/
theorem c_begin (l : Launch) (hlt : l.stackTraces = false) (dC : Nat → ClassId) (dI : Nat → Nat → Nat) (h0 h1 h2 : Nat) (cA cB : ClassId) (sz : Nat) (M S : Nat → Int32) (nn pp : Nat) (g0 : zCI nn pp M S) (x : Int32) : vx_Met l y_X_begin ws_X_begin ({ frames := 7, cells := 1, slots := 6, locals := 111 }) (va_Pc [.ref h0, .int x] (cx_P (dC, dI) vwCl (wX h0 h1 h2 cA cB M S (nI nn) (nI pp)) (tX cA cB) sz)) (va_Qi (S := Unit) (fun (r : Int32) (u : Unit) => ∃ k, k < nn ∧ x = nI k ∧ r = nI (zb (zm M) k)) (fun u t => cc_B (dC, dI) vwCl (tX cA cB) (va_A (wX h0 h1 h2 cA cB M S (nI nn) (nI pp)) sz) ((fun _ : Unit => (wX h0 h1 h2 cA cB M S (nI nn) (nI pp))) u) t) (va_A (wX h0 h1 h2 cA cB M S (nI nn) (nI pp)) sz)) (cx_X (dC, dI) vwCl (tX cA cB) (wX h0 h1 h2 cA cB M S (nI nn) (nI pp)) (va_A (wX h0 h1 h2 cA cB M S (nI nn) (nI pp)) sz) "java/lang/IndexOutOfBoundsException" (¬ ∃ k, k < nn ∧ x = nI k)) 1 6 (va_A (wX h0 h1 h2 cA cB M S (nI nn) (nI pp)) sz) := by
  refine vx_ofW (cc := c_X_begin) (maxL := 2) (ret := (some .int)) (by decide) rfl ?_
  intro p e s m args below meth c s₁ B hml htab hv
  obtain ⟨rfl, ⟨hsz, hP, hK, hD0⟩, hZ⟩ := hv
  have hx := B.exec
  have hb := B.bytes
  have hr := B.returns
  have hts : ∀ w ∈ zAll, w.before _ s = true := fun w h => atoms_spec (ws := ws_X_begin) B.pre w (List.mem_cons_of_mem _ h)
  have hown : s.vm.findClass RX = some m.cls := findClass_of_methodNamed B.named
  have hlocks := B.notSynchronized
  subst hsz
  have hD := hD0.self (sz := s.heap.size)
  generalize hAe : va_A (wX h0 h1 h2 cA cB M S (nI nn) (nI pp)) s.heap.size = A at hD hZ ⊢
  have hA : ∀ q : Nat, s.heap.size ≤ q → A q := fun q h => by rw [← hAe]; exact Or.inr h
  have hS : va_S A s.heap s.heap [] := va_S.rf
  replace hP : va_P (dC, dI) vwCl [(h0, .inr (0, [.ref h1, .ref h2, .int (nI nn), .int (nI pp)])), (h1, .inl (cA, 512, .inl M)), (h2, .inl (cB, 512, .inl S))] s.heap := hP
  replace hD : va_D A [(h0, .inr (0, [.ref h1, .ref h2, .int (nI nn), .int (nI pp)])), (h1, .inl (cA, 512, .inl M)), (h2, .inl (cB, 512, .inl S))] := hD
  have hl := lv_entry ([.ref h0, .int x]) (n := 2) (Nat.le_of_ble_eq_true rfl)
  rw [lg_entry_eq]
  generalize (lg_sl ([.ref h0, .int x]) ++ List.replicate (2 - (lg_sl ([.ref h0, .int x])).length) Slot.unset).toArray = ls at hl ⊢
  replace hl : lv_has ls 2 [(0, .ref h0), (1, .int x)] := hl
  have gi := g0
  obtain ⟨i1, i2, i3, i4, i5, i6⟩ := gi
  have hpp : pp < 16385 := by (rw [i5]; have := zc_le (zm M) nn; omega)
  refine lv_aload_n hx hb d_X_begin_0 rfl (lv_at hl 0 rfl) ?_
  refine lv_iload_n hx hb d_X_begin_1 rfl (lv_at hl 1 rfl) ?_
  refine cx_Vv (wc := [(h0, .inr (0, [.ref h1, .ref h2, .int (nI nn), .int (nI pp)])), (h1, .inl (cA, 512, .inl M)), (h2, .inl (cB, 512, .inl S))]) (wr := []) (tys' := [(cA, .int), (cB, .int)]) ⟨hx, hb, hml, hown, hts⟩ hP hD hK hS hA hZ [0, 1, 2] [] [0, 1] rfl rfl rfl (by decide) (by decide) (by decide) rfl (c_checkCell l hlt dC dI h0 h1 h2 cA cB _ M S nn (nI pp) x i2) (cwV 1 hts g_X_31 rfl rfl rfl (by decide +kernel) ⟨Nat.le_of_ble_eq_true rfl, Nat.le_of_ble_eq_true rfl⟩) 0 0 rfl rfl rfl rfl hl.1 rfl (Nat.le_of_ble_eq_true rfl) d_X_begin_2 ⟨Nat.le_of_ble_eq_true rfl, Nat.le_of_ble_eq_true rfl⟩ (fun ce q9 H locs hbad hP hD hS y1 y2 y3 => vx_out (fun x9 h9 => (htab x9 h9).elim) hlocks y1 y2 y3 (fun t9 ht9 hal => ⟨(), hbad, ⟨rfl, by rw [ht9]; exact hP, va_K.moved hal hK, hD⟩, hS.F ht9⟩) hS.2.2 (by decide) (by decide)) (fun u H locs hw hP hD hS => ?_)
  replace hP : va_P (dC, dI) vwCl [(h0, .inr (0, [.ref h1, .ref h2, .int (nI nn), .int (nI pp)])), (h1, .inl (cA, 512, .inl M)), (h2, .inl (cB, 512, .inl S))] H := hP
  replace hD : va_D A [(h0, .inr (0, [.ref h1, .ref h2, .int (nI nn), .int (nI pp)])), (h1, .inl (cA, 512, .inl M)), (h2, .inl (cB, 512, .inl S))] := hD
  obtain ⟨k, k1, rfl⟩ := hw
  refine lv_aload_n hx hb d_X_begin_5 rfl (lv_at hl 0 rfl) ?_
  refine lv_iload_n hx hb d_X_begin_6 rfl (lv_at hl 1 rfl) ?_
  refine cc_Vi (wc := [(h0, .inr (0, [.ref h1, .ref h2, .int (nI nn), .int (nI pp)])), (h1, .inl (cA, 512, .inl M)), (h2, .inl (cB, 512, .inl S))]) (wr := []) (tys' := [(cA, .int), (cB, .int)]) ⟨hx, hb, hml, hown, hts⟩ hP hD hK hS hA [0, 1, 2] [] [0, 1] rfl rfl rfl (by decide) (by decide) (by decide) rfl (c_beginOf l dC dI h0 h1 h2 cA cB _ M S nn (nI pp) k (by omega) i3 (i6 _ (by omega))) (cwV 1 hts g_X_34 rfl rfl rfl (by decide +kernel) ⟨Nat.le_of_ble_eq_true rfl, Nat.le_of_ble_eq_true rfl⟩) 0 0 rfl rfl rfl rfl hl.1 rfl (Nat.le_of_ble_eq_true rfl) d_X_begin_7 ⟨Nat.le_of_ble_eq_true rfl, Nat.le_of_ble_eq_true rfl⟩ (fun r_9 u H locs hw hP hD hS => ?_)
  replace hP : va_P (dC, dI) vwCl [(h0, .inr (0, [.ref h1, .ref h2, .int (nI nn), .int (nI pp)])), (h1, .inl (cA, 512, .inl M)), (h2, .inl (cB, 512, .inl S))] H := hP
  replace hD : va_D A [(h0, .inr (0, [.ref h1, .ref h2, .int (nI nn), .int (nI pp)])), (h1, .inl (cA, 512, .inl M)), (h2, .inl (cB, 512, .inl S))] := hD
  subst hw
  have zl_k := zb_le (zm M) k
  refine W.widen (k := 1) (n := 6) (by decide) (by decide) ?_
  refine vx_ret ?_
  exact W.iret (v := nI (zb (zm M) k)) hx hb hr (fun t9 ht9 hW9 => ⟨⟨nI (zb (zm M) k), (), rfl, ⟨k, k1, rfl, rfl⟩, by rw [ht9]; exact hP, va_K.moved hW9.alike hK, hD⟩, hS.F ht9⟩) hS.2.2 d_X_begin_10
set_option maxHeartbeats 4000000 in
set_option maxRecDepth 100000 in
/-- size(x) -/
theorem c_size (l : Launch) (hlt : l.stackTraces = false) (dC : Nat → ClassId) (dI : Nat → Nat → Nat) (h0 h1 h2 : Nat) (cA cB : ClassId) (sz : Nat) (M S : Nat → Int32) (nn pp : Nat) (g0 : zCI nn pp M S) (x : Int32) : vx_Met l y_X_size ws_X_size ({ frames := 7, cells := 1, slots := 6, locals := 111 }) (va_Pc [.ref h0, .int x] (cx_P (dC, dI) vwCl (wX h0 h1 h2 cA cB M S (nI nn) (nI pp)) (tX cA cB) sz)) (va_Qi (S := Unit) (fun (r : Int32) (u : Unit) => ∃ k, k < nn ∧ x = nI k ∧ r = nI (zn (zm M) nn (k + 1) - zb (zm M) k)) (fun u t => cc_B (dC, dI) vwCl (tX cA cB) (va_A (wX h0 h1 h2 cA cB M S (nI nn) (nI pp)) sz) ((fun _ : Unit => (wX h0 h1 h2 cA cB M S (nI nn) (nI pp))) u) t) (va_A (wX h0 h1 h2 cA cB M S (nI nn) (nI pp)) sz)) (cx_X (dC, dI) vwCl (tX cA cB) (wX h0 h1 h2 cA cB M S (nI nn) (nI pp)) (va_A (wX h0 h1 h2 cA cB M S (nI nn) (nI pp)) sz) "java/lang/IndexOutOfBoundsException" (¬ ∃ k, k < nn ∧ x = nI k)) 1 6 (va_A (wX h0 h1 h2 cA cB M S (nI nn) (nI pp)) sz) := by
  refine vx_ofW (cc := c_X_size) (maxL := 2) (ret := (some .int)) (by decide) rfl ?_
  intro p e s m args below meth c s₁ B hml htab hv
  obtain ⟨rfl, ⟨hsz, hP, hK, hD0⟩, hZ⟩ := hv
  have hx := B.exec
  have hb := B.bytes
  have hr := B.returns
  have hts : ∀ w ∈ zAll, w.before _ s = true := fun w h => atoms_spec (ws := ws_X_size) B.pre w (List.mem_cons_of_mem _ h)
  have hown : s.vm.findClass RX = some m.cls := findClass_of_methodNamed B.named
  have hlocks := B.notSynchronized
  subst hsz
  have hD := hD0.self (sz := s.heap.size)
  generalize hAe : va_A (wX h0 h1 h2 cA cB M S (nI nn) (nI pp)) s.heap.size = A at hD hZ ⊢
  have hA : ∀ q : Nat, s.heap.size ≤ q → A q := fun q h => by rw [← hAe]; exact Or.inr h
  have hS : va_S A s.heap s.heap [] := va_S.rf
  replace hP : va_P (dC, dI) vwCl [(h0, .inr (0, [.ref h1, .ref h2, .int (nI nn), .int (nI pp)])), (h1, .inl (cA, 512, .inl M)), (h2, .inl (cB, 512, .inl S))] s.heap := hP
  replace hD : va_D A [(h0, .inr (0, [.ref h1, .ref h2, .int (nI nn), .int (nI pp)])), (h1, .inl (cA, 512, .inl M)), (h2, .inl (cB, 512, .inl S))] := hD
  have hl := lv_entry ([.ref h0, .int x]) (n := 2) (Nat.le_of_ble_eq_true rfl)
  rw [lg_entry_eq]
  generalize (lg_sl ([.ref h0, .int x]) ++ List.replicate (2 - (lg_sl ([.ref h0, .int x])).length) Slot.unset).toArray = ls at hl ⊢
  replace hl : lv_has ls 2 [(0, .ref h0), (1, .int x)] := hl
  have gi := g0
  obtain ⟨i1, i2, i3, i4, i5, i6⟩ := gi
  have hpp : pp < 16385 := by (rw [i5]; have := zc_le (zm M) nn; omega)
  refine lv_aload_n hx hb d_X_size_0 rfl (lv_at hl 0 rfl) ?_
  refine lv_iload_n hx hb d_X_size_1 rfl (lv_at hl 1 rfl) ?_
  refine cx_Vv (wc := [(h0, .inr (0, [.ref h1, .ref h2, .int (nI nn), .int (nI pp)])), (h1, .inl (cA, 512, .inl M)), (h2, .inl (cB, 512, .inl S))]) (wr := []) (tys' := [(cA, .int), (cB, .int)]) ⟨hx, hb, hml, hown, hts⟩ hP hD hK hS hA hZ [0, 1, 2] [] [0, 1] rfl rfl rfl (by decide) (by decide) (by decide) rfl (c_checkCell l hlt dC dI h0 h1 h2 cA cB _ M S nn (nI pp) x i2) (cwV 1 hts g_X_31 rfl rfl rfl (by decide +kernel) ⟨Nat.le_of_ble_eq_true rfl, Nat.le_of_ble_eq_true rfl⟩) 0 0 rfl rfl rfl rfl hl.1 rfl (Nat.le_of_ble_eq_true rfl) d_X_size_2 ⟨Nat.le_of_ble_eq_true rfl, Nat.le_of_ble_eq_true rfl⟩ (fun ce q9 H locs hbad hP hD hS y1 y2 y3 => vx_out (fun x9 h9 => (htab x9 h9).elim) hlocks y1 y2 y3 (fun t9 ht9 hal => ⟨(), hbad, ⟨rfl, by rw [ht9]; exact hP, va_K.moved hal hK, hD⟩, hS.F ht9⟩) hS.2.2 (by decide) (by decide)) (fun u H locs hw hP hD hS => ?_)
  replace hP : va_P (dC, dI) vwCl [(h0, .inr (0, [.ref h1, .ref h2, .int (nI nn), .int (nI pp)])), (h1, .inl (cA, 512, .inl M)), (h2, .inl (cB, 512, .inl S))] H := hP
  replace hD : va_D A [(h0, .inr (0, [.ref h1, .ref h2, .int (nI nn), .int (nI pp)])), (h1, .inl (cA, 512, .inl M)), (h2, .inl (cB, 512, .inl S))] := hD
  obtain ⟨k, k1, rfl⟩ := hw
  refine lv_aload_n hx hb d_X_size_5 rfl (lv_at hl 0 rfl) ?_
  refine lv_iload_n hx hb d_X_size_6 rfl (lv_at hl 1 rfl) ?_
  refine cc_Vi (wc := [(h0, .inr (0, [.ref h1, .ref h2, .int (nI nn), .int (nI pp)])), (h1, .inl (cA, 512, .inl M)), (h2, .inl (cB, 512, .inl S))]) (wr := []) (tys' := [(cA, .int), (cB, .int)]) ⟨hx, hb, hml, hown, hts⟩ hP hD hK hS hA [0, 1, 2] [] [0, 1] rfl rfl rfl (by decide) (by decide) (by decide) rfl (c_endOf l dC dI h0 h1 h2 cA cB _ M S nn (nI pp) k k1 i2 i4) (cwV 1 hts g_X_41 rfl rfl rfl (by decide +kernel) ⟨Nat.le_of_ble_eq_true rfl, Nat.le_of_ble_eq_true rfl⟩) 0 0 rfl rfl rfl rfl hl.1 rfl (Nat.le_of_ble_eq_true rfl) d_X_size_7 ⟨Nat.le_of_ble_eq_true rfl, Nat.le_of_ble_eq_true rfl⟩ (fun r_9 u H locs hw hP hD hS => ?_)
  replace hP : va_P (dC, dI) vwCl [(h0, .inr (0, [.ref h1, .ref h2, .int (nI nn), .int (nI pp)])), (h1, .inl (cA, 512, .inl M)), (h2, .inl (cB, 512, .inl S))] H := hP
  replace hD : va_D A [(h0, .inr (0, [.ref h1, .ref h2, .int (nI nn), .int (nI pp)])), (h1, .inl (cA, 512, .inl M)), (h2, .inl (cB, 512, .inl S))] := hD
  subst hw
  have zg_k := zn_ge (zm M) nn (k + 1)
  have zh_k : zn (zm M) nn (k + 1) ≤ nn := zn_le (by omega)
  refine lv_aload_n hx hb d_X_size_10 rfl (lv_at hl 0 rfl) ?_
  refine lv_iload_n hx hb d_X_size_11 rfl (lv_at hl 1 rfl) ?_
  refine cc_Vi (wc := [(h0, .inr (0, [.ref h1, .ref h2, .int (nI nn), .int (nI pp)])), (h1, .inl (cA, 512, .inl M)), (h2, .inl (cB, 512, .inl S))]) (wr := []) (tys' := [(cA, .int), (cB, .int)]) ⟨hx, hb, hml, hown, hts⟩ hP hD hK hS hA [0, 1, 2] [] [0, 1] rfl rfl rfl (by decide) (by decide) (by decide) rfl (c_beginOf l dC dI h0 h1 h2 cA cB _ M S nn (nI pp) k (by omega) i3 (i6 _ (by omega))) (cwV 1 hts g_X_34 rfl rfl rfl (by decide +kernel) ⟨Nat.le_of_ble_eq_true rfl, Nat.le_of_ble_eq_true rfl⟩) 0 0 rfl rfl rfl rfl hl.1 rfl (Nat.le_of_ble_eq_true rfl) d_X_size_12 ⟨Nat.le_of_ble_eq_true rfl, Nat.le_of_ble_eq_true rfl⟩ (fun r_9 u H locs hw hP hD hS => ?_)
  replace hP : va_P (dC, dI) vwCl [(h0, .inr (0, [.ref h1, .ref h2, .int (nI nn), .int (nI pp)])), (h1, .inl (cA, 512, .inl M)), (h2, .inl (cB, 512, .inl S))] H := hP
  replace hD : va_D A [(h0, .inr (0, [.ref h1, .ref h2, .int (nI nn), .int (nI pp)])), (h1, .inl (cA, 512, .inl M)), (h2, .inl (cB, 512, .inl S))] := hD
  subst hw
  have zl_k := zb_le (zm M) k
  refine lv_isub hx hb d_X_size_15 ?_
  refine lv_topi (nm_r (show _ = nI ((zn (zm M) nn (k + 1)) - (zb (zm M) k)) from pk_sub (by omega)) ?_)
  refine W.widen (k := 1) (n := 6) (by decide) (by decide) ?_
  refine vx_ret ?_
  exact W.iret (v := nI ((zn (zm M) nn (k + 1)) - (zb (zm M) k))) hx hb hr (fun t9 ht9 hW9 => ⟨⟨nI ((zn (zm M) nn (k + 1)) - (zb (zm M) k)), (), rfl, ⟨k, k1, rfl, rfl⟩, by rw [ht9]; exact hP, va_K.moved hW9.alike hK, hD⟩, hS.F ht9⟩) hS.2.2 d_X_size_16
set_option maxHeartbeats 4000000 in
set_option maxRecDepth 100000 in
/-- start(x) -/
theorem c_start (l : Launch) (hlt : l.stackTraces = false) (dC : Nat → ClassId) (dI : Nat → Nat → Nat) (h0 h1 h2 : Nat) (cA cB : ClassId) (sz : Nat) (M S : Nat → Int32) (nn pp : Nat) (g0 : zCI nn pp M S) (x : Int32) : vx_Met l y_X_start ws_X_start ({ frames := 7, cells := 1, slots := 6, locals := 111 }) (va_Pc [.ref h0, .int x] (cx_P (dC, dI) vwCl (wX h0 h1 h2 cA cB M S (nI nn) (nI pp)) (tX cA cB) sz)) (va_Qi (S := Unit) (fun (r : Int32) (u : Unit) => ∃ k, k < (nn + 31) / 32 ∧ x = nI k ∧ r = nI (zb (zm M) (32 * k))) (fun u t => cc_B (dC, dI) vwCl (tX cA cB) (va_A (wX h0 h1 h2 cA cB M S (nI nn) (nI pp)) sz) ((fun _ : Unit => (wX h0 h1 h2 cA cB M S (nI nn) (nI pp))) u) t) (va_A (wX h0 h1 h2 cA cB M S (nI nn) (nI pp)) sz)) (cx_X (dC, dI) vwCl (tX cA cB) (wX h0 h1 h2 cA cB M S (nI nn) (nI pp)) (va_A (wX h0 h1 h2 cA cB M S (nI nn) (nI pp)) sz) "java/lang/IndexOutOfBoundsException" (¬ ∃ k, k < (nn + 31) / 32 ∧ x = nI k)) 1 6 (va_A (wX h0 h1 h2 cA cB M S (nI nn) (nI pp)) sz) := by
  refine vx_ofW (cc := c_X_start) (maxL := 2) (ret := (some .int)) (by decide) rfl ?_
  intro p e s m args below meth c s₁ B hml htab hv
  obtain ⟨rfl, ⟨hsz, hP, hK, hD0⟩, hZ⟩ := hv
  have hx := B.exec
  have hb := B.bytes
  have hr := B.returns
  have hts : ∀ w ∈ zAll, w.before _ s = true := fun w h => atoms_spec (ws := ws_X_start) B.pre w (List.mem_cons_of_mem _ h)
  have hown : s.vm.findClass RX = some m.cls := findClass_of_methodNamed B.named
  have hlocks := B.notSynchronized
  subst hsz
  have hD := hD0.self (sz := s.heap.size)
  generalize hAe : va_A (wX h0 h1 h2 cA cB M S (nI nn) (nI pp)) s.heap.size = A at hD hZ ⊢
  have hA : ∀ q : Nat, s.heap.size ≤ q → A q := fun q h => by rw [← hAe]; exact Or.inr h
  have hS : va_S A s.heap s.heap [] := va_S.rf
  replace hP : va_P (dC, dI) vwCl [(h0, .inr (0, [.ref h1, .ref h2, .int (nI nn), .int (nI pp)])), (h1, .inl (cA, 512, .inl M)), (h2, .inl (cB, 512, .inl S))] s.heap := hP
  replace hD : va_D A [(h0, .inr (0, [.ref h1, .ref h2, .int (nI nn), .int (nI pp)])), (h1, .inl (cA, 512, .inl M)), (h2, .inl (cB, 512, .inl S))] := hD
  have hl := lv_entry ([.ref h0, .int x]) (n := 2) (Nat.le_of_ble_eq_true rfl)
  rw [lg_entry_eq]
  generalize (lg_sl ([.ref h0, .int x]) ++ List.replicate (2 - (lg_sl ([.ref h0, .int x])).length) Slot.unset).toArray = ls at hl ⊢
  replace hl : lv_has ls 2 [(0, .ref h0), (1, .int x)] := hl
  have gi := g0
  obtain ⟨i1, i2, i3, i4, i5, i6⟩ := gi
  have hpp : pp < 16385 := by (rw [i5]; have := zc_le (zm M) nn; omega)
  refine lv_aload_n hx hb d_X_start_0 rfl (lv_at hl 0 rfl) ?_
  refine lv_iload_n hx hb d_X_start_1 rfl (lv_at hl 1 rfl) ?_
  refine cx_Vv (wc := [(h0, .inr (0, [.ref h1, .ref h2, .int (nI nn), .int (nI pp)])), (h1, .inl (cA, 512, .inl M)), (h2, .inl (cB, 512, .inl S))]) (wr := []) (tys' := [(cA, .int), (cB, .int)]) ⟨hx, hb, hml, hown, hts⟩ hP hD hK hS hA hZ [0, 1, 2] [] [0, 1] rfl rfl rfl (by decide) (by decide) (by decide) rfl (c_checkCard l hlt dC dI h0 h1 h2 cA cB _ M S nn (nI pp) x i2) (cwV 1 hts g_X_56 rfl rfl rfl (by decide +kernel) ⟨Nat.le_of_ble_eq_true rfl, Nat.le_of_ble_eq_true rfl⟩) 0 0 rfl rfl rfl rfl hl.1 rfl (Nat.le_of_ble_eq_true rfl) d_X_start_2 ⟨Nat.le_of_ble_eq_true rfl, Nat.le_of_ble_eq_true rfl⟩ (fun ce q9 H locs hbad hP hD hS y1 y2 y3 => vx_out (fun x9 h9 => (htab x9 h9).elim) hlocks y1 y2 y3 (fun t9 ht9 hal => ⟨(), hbad, ⟨rfl, by rw [ht9]; exact hP, va_K.moved hal hK, hD⟩, hS.F ht9⟩) hS.2.2 (by decide) (by decide)) (fun u H locs hw hP hD hS => ?_)
  replace hP : va_P (dC, dI) vwCl [(h0, .inr (0, [.ref h1, .ref h2, .int (nI nn), .int (nI pp)])), (h1, .inl (cA, 512, .inl M)), (h2, .inl (cB, 512, .inl S))] H := hP
  replace hD : va_D A [(h0, .inr (0, [.ref h1, .ref h2, .int (nI nn), .int (nI pp)])), (h1, .inl (cA, 512, .inl M)), (h2, .inl (cB, 512, .inl S))] := hD
  obtain ⟨k, k1, rfl⟩ := hw
  refine lv_aload_n hx hb d_X_start_5 rfl (lv_at hl 0 rfl) ?_
  refine va_get (D := (dC, dI)) (ci := 0) (v := .ref h2) (C := RX) (T := TX) (N := 4) hx hb hts inX hown hK hP 0 rfl rfl 1 (by decide) (hts _ wl_X_13) (fun _ h9 => h9) rfl d_X_start_6 ?_
  refine lv_iload_n hx hb d_X_start_9 rfl (lv_at hl 1 rfl) ?_
  refine va_iald hx hb hK hP 2 1 rfl rfl (vp_in_nI (by omega) (by decide)) d_X_start_10 ?_
  refine lv_topi (nm_r (show _ = S k from by rw [nI_clamp (by omega)]) ?_)
  refine W.widen (k := 1) (n := 6) (by decide) (by decide) ?_
  refine vx_ret ?_
  exact W.iret (v := S k) hx hb hr (fun t9 ht9 hW9 => ⟨⟨S k, (), rfl, ⟨k, k1, rfl, i6 k (by omega)⟩, by rw [ht9]; exact hP, va_K.moved hW9.alike hK, hD⟩, hS.F ht9⟩) hS.2.2 d_X_start_11
set_option maxHeartbeats 4000000 in
set_option maxRecDepth 100000 in
/-- begins(x) -/
theorem c_begins (l : Launch) (hlt : l.stackTraces = false) (dC : Nat → ClassId) (dI : Nat → Nat → Nat) (h0 h1 h2 : Nat) (cA cB : ClassId) (sz : Nat) (M S : Nat → Int32) (nn pp : Nat) (g0 : zCI nn pp M S) (x : Int32) : vx_Met l y_X_begins ws_X_begins ({ frames := 7, cells := 1, slots := 6, locals := 111 }) (va_Pc [.ref h0, .int x] (cx_P (dC, dI) vwCl (wX h0 h1 h2 cA cB M S (nI nn) (nI pp)) (tX cA cB) sz)) (va_Qi (S := Unit) (fun (r : Int32) (u : Unit) => ∃ k, k < (nn + 31) / 32 ∧ x = nI k ∧ r = nI (zc (bt (M k)) 32)) (fun u t => cc_B (dC, dI) vwCl (tX cA cB) (va_A (wX h0 h1 h2 cA cB M S (nI nn) (nI pp)) sz) ((fun _ : Unit => (wX h0 h1 h2 cA cB M S (nI nn) (nI pp))) u) t) (va_A (wX h0 h1 h2 cA cB M S (nI nn) (nI pp)) sz)) (cx_X (dC, dI) vwCl (tX cA cB) (wX h0 h1 h2 cA cB M S (nI nn) (nI pp)) (va_A (wX h0 h1 h2 cA cB M S (nI nn) (nI pp)) sz) "java/lang/IndexOutOfBoundsException" (¬ ∃ k, k < (nn + 31) / 32 ∧ x = nI k)) 1 6 (va_A (wX h0 h1 h2 cA cB M S (nI nn) (nI pp)) sz) := by
  refine vx_ofW (cc := c_X_begins) (maxL := 2) (ret := (some .int)) (by decide) rfl ?_
  intro p e s m args below meth c s₁ B hml htab hv
  obtain ⟨rfl, ⟨hsz, hP, hK, hD0⟩, hZ⟩ := hv
  have hx := B.exec
  have hb := B.bytes
  have hr := B.returns
  have hts : ∀ w ∈ zAll, w.before _ s = true := fun w h => atoms_spec (ws := ws_X_begins) B.pre w (List.mem_cons_of_mem _ h)
  have hown : s.vm.findClass RX = some m.cls := findClass_of_methodNamed B.named
  have hlocks := B.notSynchronized
  subst hsz
  have hD := hD0.self (sz := s.heap.size)
  generalize hAe : va_A (wX h0 h1 h2 cA cB M S (nI nn) (nI pp)) s.heap.size = A at hD hZ ⊢
  have hA : ∀ q : Nat, s.heap.size ≤ q → A q := fun q h => by rw [← hAe]; exact Or.inr h
  have hS : va_S A s.heap s.heap [] := va_S.rf
  replace hP : va_P (dC, dI) vwCl [(h0, .inr (0, [.ref h1, .ref h2, .int (nI nn), .int (nI pp)])), (h1, .inl (cA, 512, .inl M)), (h2, .inl (cB, 512, .inl S))] s.heap := hP
  replace hD : va_D A [(h0, .inr (0, [.ref h1, .ref h2, .int (nI nn), .int (nI pp)])), (h1, .inl (cA, 512, .inl M)), (h2, .inl (cB, 512, .inl S))] := hD
  have hl := lv_entry ([.ref h0, .int x]) (n := 2) (Nat.le_of_ble_eq_true rfl)
  rw [lg_entry_eq]
  generalize (lg_sl ([.ref h0, .int x]) ++ List.replicate (2 - (lg_sl ([.ref h0, .int x])).length) Slot.unset).toArray = ls at hl ⊢
  replace hl : lv_has ls 2 [(0, .ref h0), (1, .int x)] := hl
  have gi := g0
  obtain ⟨i1, i2, i3, i4, i5, i6⟩ := gi
  have hpp : pp < 16385 := by (rw [i5]; have := zc_le (zm M) nn; omega)
  refine lv_aload_n hx hb d_X_begins_0 rfl (lv_at hl 0 rfl) ?_
  refine lv_iload_n hx hb d_X_begins_1 rfl (lv_at hl 1 rfl) ?_
  refine cx_Vv (wc := [(h0, .inr (0, [.ref h1, .ref h2, .int (nI nn), .int (nI pp)])), (h1, .inl (cA, 512, .inl M)), (h2, .inl (cB, 512, .inl S))]) (wr := []) (tys' := [(cA, .int), (cB, .int)]) ⟨hx, hb, hml, hown, hts⟩ hP hD hK hS hA hZ [0, 1, 2] [] [0, 1] rfl rfl rfl (by decide) (by decide) (by decide) rfl (c_checkCard l hlt dC dI h0 h1 h2 cA cB _ M S nn (nI pp) x i2) (cwV 1 hts g_X_56 rfl rfl rfl (by decide +kernel) ⟨Nat.le_of_ble_eq_true rfl, Nat.le_of_ble_eq_true rfl⟩) 0 0 rfl rfl rfl rfl hl.1 rfl (Nat.le_of_ble_eq_true rfl) d_X_begins_2 ⟨Nat.le_of_ble_eq_true rfl, Nat.le_of_ble_eq_true rfl⟩ (fun ce q9 H locs hbad hP hD hS y1 y2 y3 => vx_out (fun x9 h9 => (htab x9 h9).elim) hlocks y1 y2 y3 (fun t9 ht9 hal => ⟨(), hbad, ⟨rfl, by rw [ht9]; exact hP, va_K.moved hal hK, hD⟩, hS.F ht9⟩) hS.2.2 (by decide) (by decide)) (fun u H locs hw hP hD hS => ?_)
  replace hP : va_P (dC, dI) vwCl [(h0, .inr (0, [.ref h1, .ref h2, .int (nI nn), .int (nI pp)])), (h1, .inl (cA, 512, .inl M)), (h2, .inl (cB, 512, .inl S))] H := hP
  replace hD : va_D A [(h0, .inr (0, [.ref h1, .ref h2, .int (nI nn), .int (nI pp)])), (h1, .inl (cA, 512, .inl M)), (h2, .inl (cB, 512, .inl S))] := hD
  obtain ⟨k, k1, rfl⟩ := hw
  refine lv_aload_n hx hb d_X_begins_5 rfl (lv_at hl 0 rfl) ?_
  refine va_get (D := (dC, dI)) (ci := 0) (v := .ref h1) (C := RX) (T := TX) (N := 4) hx hb hts inX hown hK hP 0 rfl rfl 0 (by decide) (hts _ wl_X_9) (fun _ h9 => h9) rfl d_X_begins_6 ?_
  refine lv_iload_n hx hb d_X_begins_9 rfl (lv_at hl 1 rfl) ?_
  refine va_iald hx hb hK hP 1 0 rfl rfl (vp_in_nI (by omega) (by decide)) d_X_begins_10 ?_
  refine lv_topi (nm_r (show _ = M k from by rw [nI_clamp (by omega)]) ?_)
  refine cc_Si (wc := []) (wr := [(h0, .inr (0, [.ref h1, .ref h2, .int (nI nn), .int (nI pp)])), (h1, .inl (cA, 512, .inl M)), (h2, .inl (cB, 512, .inl S))]) (tys' := []) ⟨hx, hb, hml, hown, hts⟩ hP hD hK hS hA [] [0, 1, 2] [] rfl rfl rfl (by decide) (by decide) (by decide) rfl (k_pop l dC dI _ (M k)) (va_cwS 1 hts g_X_59 rfl rfl rfl (by decide +kernel) ⟨Nat.le_of_ble_eq_true rfl, Nat.le_of_ble_eq_true rfl⟩) rfl hl.1 rfl (Nat.le_of_ble_eq_true rfl) d_X_begins_11 ⟨Nat.le_of_ble_eq_true rfl, Nat.le_of_ble_eq_true rfl⟩ (fun r_9 u H locs hw hP hD hS => ?_)
  replace hP : va_P (dC, dI) vwCl [(h0, .inr (0, [.ref h1, .ref h2, .int (nI nn), .int (nI pp)])), (h1, .inl (cA, 512, .inl M)), (h2, .inl (cB, 512, .inl S))] H := hP
  replace hD : va_D A [(h0, .inr (0, [.ref h1, .ref h2, .int (nI nn), .int (nI pp)])), (h1, .inl (cA, 512, .inl M)), (h2, .inl (cB, 512, .inl S))] := hD
  subst hw
  refine W.widen (k := 1) (n := 6) (by decide) (by decide) ?_
  refine vx_ret ?_
  exact W.iret (v := nI (zc (bt (M k)) 32)) hx hb hr (fun t9 ht9 hW9 => ⟨⟨nI (zc (bt (M k)) 32), (), rfl, ⟨k, k1, rfl, rfl⟩, by rw [ht9]; exact hP, va_K.moved hW9.alike hK, hD⟩, hS.F ht9⟩) hS.2.2 d_X_begins_14
set_option maxHeartbeats 4000000 in
set_option maxRecDepth 100000 in
/-- cut(x) -/
theorem c_cut (l : Launch) (hlt : l.stackTraces = false) (dC : Nat → ClassId) (dI : Nat → Nat → Nat) (h0 h1 h2 : Nat) (cA cB : ClassId) (sz : Nat) (M S : Nat → Int32) (nn pp : Nat) (g0 : zCI nn pp M S) (x : Int32) : vx_Met l y_X_cut ws_X_cut ({ frames := 7, cells := 1, slots := 6, locals := 111 }) (va_Pc [.ref h0, .int x] (cx_P (dC, dI) vwCl (wX h0 h1 h2 cA cB M S (nI nn) (nI pp)) (tX cA cB) sz)) (va_Qi (S := (Nat → Int32) × (Nat → Int32) × Nat) (fun (r : Int32) (u : (Nat → Int32) × (Nat → Int32) × Nat) => ∃ k, k < nn ∧ x = nI k ∧ r = nI (k - zb (zm M) k) ∧ zCI nn u.2.2 u.1 u.2.1 ∧ ∀ j, zm u.1 j = (zm M j || decide (j = k))) (fun u t => cc_B (dC, dI) vwCl (tX cA cB) (va_A (wX h0 h1 h2 cA cB M S (nI nn) (nI pp)) sz) ((fun u : (Nat → Int32) × (Nat → Int32) × Nat => (wX h0 h1 h2 cA cB u.1 u.2.1 (nI nn) (nI u.2.2))) u) t) (va_A (wX h0 h1 h2 cA cB M S (nI nn) (nI pp)) sz)) (cx_X (dC, dI) vwCl (tX cA cB) (wX h0 h1 h2 cA cB M S (nI nn) (nI pp)) (va_A (wX h0 h1 h2 cA cB M S (nI nn) (nI pp)) sz) "java/lang/IndexOutOfBoundsException" (¬ ∃ k, k < nn ∧ x = nI k)) 1 6 (va_A (wX h0 h1 h2 cA cB M S (nI nn) (nI pp)) sz) := by
  refine vx_ofW (cc := c_X_cut) (maxL := 3) (ret := (some .int)) (by decide) rfl ?_
  intro p e s m args below meth c s₁ B hml htab hv
  obtain ⟨rfl, ⟨hsz, hP, hK, hD0⟩, hZ⟩ := hv
  have hx := B.exec
  have hb := B.bytes
  have hr := B.returns
  have hts : ∀ w ∈ zAll, w.before _ s = true := fun w h => atoms_spec (ws := ws_X_cut) B.pre w (List.mem_cons_of_mem _ h)
  have hown : s.vm.findClass RX = some m.cls := findClass_of_methodNamed B.named
  have hlocks := B.notSynchronized
  subst hsz
  have hD := hD0.self (sz := s.heap.size)
  generalize hAe : va_A (wX h0 h1 h2 cA cB M S (nI nn) (nI pp)) s.heap.size = A at hD hZ ⊢
  have hA : ∀ q : Nat, s.heap.size ≤ q → A q := fun q h => by rw [← hAe]; exact Or.inr h
  have hS : va_S A s.heap s.heap [] := va_S.rf
  replace hP : va_P (dC, dI) vwCl [(h0, .inr (0, [.ref h1, .ref h2, .int (nI nn), .int (nI pp)])), (h1, .inl (cA, 512, .inl M)), (h2, .inl (cB, 512, .inl S))] s.heap := hP
  replace hD : va_D A [(h0, .inr (0, [.ref h1, .ref h2, .int (nI nn), .int (nI pp)])), (h1, .inl (cA, 512, .inl M)), (h2, .inl (cB, 512, .inl S))] := hD
  have hl := lv_entry ([.ref h0, .int x]) (n := 3) (Nat.le_of_ble_eq_true rfl)
  rw [lg_entry_eq]
  generalize (lg_sl ([.ref h0, .int x]) ++ List.replicate (3 - (lg_sl ([.ref h0, .int x])).length) Slot.unset).toArray = ls at hl ⊢
  replace hl : lv_has ls 3 [(0, .ref h0), (1, .int x)] := hl
  have gi := g0
  obtain ⟨i1, i2, i3, i4, i5, i6⟩ := gi
  have hpp : pp < 16385 := by (rw [i5]; have := zc_le (zm M) nn; omega)
  refine lv_aload_n hx hb d_X_cut_0 rfl (lv_at hl 0 rfl) ?_
  refine lv_iload_n hx hb d_X_cut_1 rfl (lv_at hl 1 rfl) ?_
  refine cx_Vv (wc := [(h0, .inr (0, [.ref h1, .ref h2, .int (nI nn), .int (nI pp)])), (h1, .inl (cA, 512, .inl M)), (h2, .inl (cB, 512, .inl S))]) (wr := []) (tys' := [(cA, .int), (cB, .int)]) ⟨hx, hb, hml, hown, hts⟩ hP hD hK hS hA hZ [0, 1, 2] [] [0, 1] rfl rfl rfl (by decide) (by decide) (by decide) rfl (c_checkCell l hlt dC dI h0 h1 h2 cA cB _ M S nn (nI pp) x i2) (cwV 1 hts g_X_31 rfl rfl rfl (by decide +kernel) ⟨Nat.le_of_ble_eq_true rfl, Nat.le_of_ble_eq_true rfl⟩) 0 0 rfl rfl rfl rfl hl.1 rfl (Nat.le_of_ble_eq_true rfl) d_X_cut_2 ⟨Nat.le_of_ble_eq_true rfl, Nat.le_of_ble_eq_true rfl⟩ (fun ce q9 H locs hbad hP hD hS y1 y2 y3 => vx_out (fun x9 h9 => (htab x9 h9).elim) hlocks y1 y2 y3 (fun t9 ht9 hal => ⟨(), hbad, ⟨rfl, by rw [ht9]; exact hP, va_K.moved hal hK, hD⟩, hS.F ht9⟩) hS.2.2 (by decide) (by decide)) (fun u H locs hw hP hD hS => ?_)
  replace hP : va_P (dC, dI) vwCl [(h0, .inr (0, [.ref h1, .ref h2, .int (nI nn), .int (nI pp)])), (h1, .inl (cA, 512, .inl M)), (h2, .inl (cB, 512, .inl S))] H := hP
  replace hD : va_D A [(h0, .inr (0, [.ref h1, .ref h2, .int (nI nn), .int (nI pp)])), (h1, .inl (cA, 512, .inl M)), (h2, .inl (cB, 512, .inl S))] := hD
  obtain ⟨k, k1, rfl⟩ := hw
  refine lv_iload_n hx hb d_X_cut_5 rfl (lv_at hl 1 rfl) ?_
  refine lv_aload_n hx hb d_X_cut_6 rfl (lv_at hl 0 rfl) ?_
  refine lv_iload_n hx hb d_X_cut_7 rfl (lv_at hl 1 rfl) ?_
  refine cc_Vi (wc := [(h0, .inr (0, [.ref h1, .ref h2, .int (nI nn), .int (nI pp)])), (h1, .inl (cA, 512, .inl M)), (h2, .inl (cB, 512, .inl S))]) (wr := []) (tys' := [(cA, .int), (cB, .int)]) ⟨hx, hb, hml, hown, hts⟩ hP hD hK hS hA [0, 1, 2] [] [0, 1] rfl rfl rfl (by decide) (by decide) (by decide) rfl (c_beginOf l dC dI h0 h1 h2 cA cB _ M S nn (nI pp) k (by omega) i3 (i6 _ (by omega))) (cwV 1 hts g_X_34 rfl rfl rfl (by decide +kernel) ⟨Nat.le_of_ble_eq_true rfl, Nat.le_of_ble_eq_true rfl⟩) 0 0 rfl rfl rfl rfl hl.1 rfl (Nat.le_of_ble_eq_true rfl) d_X_cut_8 ⟨Nat.le_of_ble_eq_true rfl, Nat.le_of_ble_eq_true rfl⟩ (fun r_9 u H locs hw hP hD hS => ?_)
  replace hP : va_P (dC, dI) vwCl [(h0, .inr (0, [.ref h1, .ref h2, .int (nI nn), .int (nI pp)])), (h1, .inl (cA, 512, .inl M)), (h2, .inl (cB, 512, .inl S))] H := hP
  replace hD : va_D A [(h0, .inr (0, [.ref h1, .ref h2, .int (nI nn), .int (nI pp)])), (h1, .inl (cA, 512, .inl M)), (h2, .inl (cB, 512, .inl S))] := hD
  subst hw
  have zl_k := zb_le (zm M) k
  refine lv_isub hx hb d_X_cut_11 ?_
  refine lv_topi (nm_r (show _ = nI (k - (zb (zm M) k)) from pk_sub (by omega)) ?_)
  refine lv_istore_n (lv' := [(2, .int (nI (k - (zb (zm M) k)))), (0, .ref h0), (1, .int (nI k))]) hx hb d_X_cut_12 rfl hl (by decide) rfl (fun ls hl => ?_)
  refine lv_aload_n hx hb d_X_cut_13 rfl (lv_at hl 1 rfl) ?_
  refine lv_iload_n hx hb d_X_cut_14 rfl (lv_at hl 2 rfl) ?_
  refine cc_Vv (wc := [(h0, .inr (0, [.ref h1, .ref h2, .int (nI nn), .int (nI pp)])), (h1, .inl (cA, 512, .inl M)), (h2, .inl (cB, 512, .inl S))]) (wr := []) (tys' := [(cA, .int), (cB, .int)]) ⟨hx, hb, hml, hown, hts⟩ hP hD hK hS hA [0, 1, 2] [] [0, 1] rfl rfl rfl (by decide) (by decide) (by decide) rfl (c_cutAt l dC dI h0 h1 h2 cA cB _ M S nn pp k g0 k1) (cwV 1 hts g_X_38 rfl rfl rfl (by decide +kernel) ⟨Nat.le_of_ble_eq_true rfl, Nat.le_of_ble_eq_true rfl⟩) 0 0 rfl rfl rfl rfl hl.1 rfl (Nat.le_of_ble_eq_true rfl) d_X_cut_15 ⟨Nat.le_of_ble_eq_true rfl, Nat.le_of_ble_eq_true rfl⟩ (fun u H locs hw hP hD hS => ?_)
  replace hP : va_P (dC, dI) vwCl [(h0, .inr (0, [.ref h1, .ref h2, .int (nI nn), .int (nI u.2.2)])), (h1, .inl (cA, 512, .inl u.1)), (h2, .inl (cB, 512, .inl u.2.1))] H := hP
  replace hD : va_D A [(h0, .inr (0, [.ref h1, .ref h2, .int (nI nn), .int (nI u.2.2)])), (h1, .inl (cA, 512, .inl u.1)), (h2, .inl (cB, 512, .inl u.2.1))] := hD
  refine lv_iload_n hx hb d_X_cut_18 rfl (lv_at hl 0 rfl) ?_
  refine W.widen (k := 1) (n := 6) (by decide) (by decide) ?_
  refine vx_ret ?_
  exact W.iret (v := nI (k - (zb (zm M) k))) hx hb hr (fun t9 ht9 hW9 => ⟨⟨nI (k - (zb (zm M) k)), u, rfl, ⟨k, k1, rfl, rfl, hw⟩, by rw [ht9]; exact hP, va_K.moved hW9.alike hK, hD⟩, hS.F ht9⟩) hS.2.2 d_X_cut_19
set_option maxHeartbeats 4000000 in
set_option maxRecDepth 100000 in
/-- join(x) -/
theorem c_join (l : Launch) (hlt : l.stackTraces = false) (dC : Nat → ClassId) (dI : Nat → Nat → Nat) (h0 h1 h2 : Nat) (cA cB : ClassId) (sz : Nat) (M S : Nat → Int32) (nn pp : Nat) (g0 : zCI nn pp M S) (x : Int32) : vx_Met l y_X_join ws_X_join ({ frames := 7, cells := 1, slots := 6, locals := 111 }) (va_Pc [.ref h0, .int x] (cx_P (dC, dI) vwCl (wX h0 h1 h2 cA cB M S (nI nn) (nI pp)) (tX cA cB) sz)) (va_Qi (S := (Nat → Int32) × (Nat → Int32) × Nat) (fun (r : Int32) (u : (Nat → Int32) × (Nat → Int32) × Nat) => ∃ k, k < nn ∧ x = nI k ∧ r = nI (if zn (zm M) nn (k + 1) < nn then zn (zm M) nn (zn (zm M) nn (k + 1) + 1) - zb (zm M) k else 0) ∧ zCI nn u.2.2 u.1 u.2.1 ∧ ∀ j, j < 16384 → zm u.1 j = (zm M j && !decide (j = zn (zm M) nn (k + 1)))) (fun u t => cc_B (dC, dI) vwCl (tX cA cB) (va_A (wX h0 h1 h2 cA cB M S (nI nn) (nI pp)) sz) ((fun u : (Nat → Int32) × (Nat → Int32) × Nat => (wX h0 h1 h2 cA cB u.1 u.2.1 (nI nn) (nI u.2.2))) u) t) (va_A (wX h0 h1 h2 cA cB M S (nI nn) (nI pp)) sz)) (cx_X (dC, dI) vwCl (tX cA cB) (wX h0 h1 h2 cA cB M S (nI nn) (nI pp)) (va_A (wX h0 h1 h2 cA cB M S (nI nn) (nI pp)) sz) "java/lang/IndexOutOfBoundsException" (¬ ∃ k, k < nn ∧ x = nI k)) 1 6 (va_A (wX h0 h1 h2 cA cB M S (nI nn) (nI pp)) sz) := by
  refine vx_ofW (cc := c_X_join) (maxL := 5) (ret := (some .int)) (by decide) rfl ?_
  intro p e s m args below meth c s₁ B hml htab hv
  obtain ⟨rfl, ⟨hsz, hP, hK, hD0⟩, hZ⟩ := hv
  have hx := B.exec
  have hb := B.bytes
  have hr := B.returns
  have hts : ∀ w ∈ zAll, w.before _ s = true := fun w h => atoms_spec (ws := ws_X_join) B.pre w (List.mem_cons_of_mem _ h)
  have hown : s.vm.findClass RX = some m.cls := findClass_of_methodNamed B.named
  have hlocks := B.notSynchronized
  subst hsz
  have hD := hD0.self (sz := s.heap.size)
  generalize hAe : va_A (wX h0 h1 h2 cA cB M S (nI nn) (nI pp)) s.heap.size = A at hD hZ ⊢
  have hA : ∀ q : Nat, s.heap.size ≤ q → A q := fun q h => by rw [← hAe]; exact Or.inr h
  have hS : va_S A s.heap s.heap [] := va_S.rf
  replace hP : va_P (dC, dI) vwCl [(h0, .inr (0, [.ref h1, .ref h2, .int (nI nn), .int (nI pp)])), (h1, .inl (cA, 512, .inl M)), (h2, .inl (cB, 512, .inl S))] s.heap := hP
  replace hD : va_D A [(h0, .inr (0, [.ref h1, .ref h2, .int (nI nn), .int (nI pp)])), (h1, .inl (cA, 512, .inl M)), (h2, .inl (cB, 512, .inl S))] := hD
  have hl := lv_entry ([.ref h0, .int x]) (n := 5) (Nat.le_of_ble_eq_true rfl)
  rw [lg_entry_eq]
  generalize (lg_sl ([.ref h0, .int x]) ++ List.replicate (5 - (lg_sl ([.ref h0, .int x])).length) Slot.unset).toArray = ls at hl ⊢
  replace hl : lv_has ls 5 [(0, .ref h0), (1, .int x)] := hl
  have gi := g0
  obtain ⟨i1, i2, i3, i4, i5, i6⟩ := gi
  have hpp : pp < 16385 := by (rw [i5]; have := zc_le (zm M) nn; omega)
  refine lv_aload_n hx hb d_X_join_0 rfl (lv_at hl 0 rfl) ?_
  refine lv_iload_n hx hb d_X_join_1 rfl (lv_at hl 1 rfl) ?_
  refine cx_Vv (wc := [(h0, .inr (0, [.ref h1, .ref h2, .int (nI nn), .int (nI pp)])), (h1, .inl (cA, 512, .inl M)), (h2, .inl (cB, 512, .inl S))]) (wr := []) (tys' := [(cA, .int), (cB, .int)]) ⟨hx, hb, hml, hown, hts⟩ hP hD hK hS hA hZ [0, 1, 2] [] [0, 1] rfl rfl rfl (by decide) (by decide) (by decide) rfl (c_checkCell l hlt dC dI h0 h1 h2 cA cB _ M S nn (nI pp) x i2) (cwV 1 hts g_X_31 rfl rfl rfl (by decide +kernel) ⟨Nat.le_of_ble_eq_true rfl, Nat.le_of_ble_eq_true rfl⟩) 0 0 rfl rfl rfl rfl hl.1 rfl (Nat.le_of_ble_eq_true rfl) d_X_join_2 ⟨Nat.le_of_ble_eq_true rfl, Nat.le_of_ble_eq_true rfl⟩ (fun ce q9 H locs hbad hP hD hS y1 y2 y3 => vx_out (fun x9 h9 => (htab x9 h9).elim) hlocks y1 y2 y3 (fun t9 ht9 hal => ⟨(), hbad, ⟨rfl, by rw [ht9]; exact hP, va_K.moved hal hK, hD⟩, hS.F ht9⟩) hS.2.2 (by decide) (by decide)) (fun u H locs hw hP hD hS => ?_)
  replace hP : va_P (dC, dI) vwCl [(h0, .inr (0, [.ref h1, .ref h2, .int (nI nn), .int (nI pp)])), (h1, .inl (cA, 512, .inl M)), (h2, .inl (cB, 512, .inl S))] H := hP
  replace hD : va_D A [(h0, .inr (0, [.ref h1, .ref h2, .int (nI nn), .int (nI pp)])), (h1, .inl (cA, 512, .inl M)), (h2, .inl (cB, 512, .inl S))] := hD
  obtain ⟨k, k1, rfl⟩ := hw
  refine lv_aload_n hx hb d_X_join_5 rfl (lv_at hl 0 rfl) ?_
  refine lv_iload_n hx hb d_X_join_6 rfl (lv_at hl 1 rfl) ?_
  refine cc_Vi (wc := [(h0, .inr (0, [.ref h1, .ref h2, .int (nI nn), .int (nI pp)])), (h1, .inl (cA, 512, .inl M)), (h2, .inl (cB, 512, .inl S))]) (wr := []) (tys' := [(cA, .int), (cB, .int)]) ⟨hx, hb, hml, hown, hts⟩ hP hD hK hS hA [0, 1, 2] [] [0, 1] rfl rfl rfl (by decide) (by decide) (by decide) rfl (c_endOf l dC dI h0 h1 h2 cA cB _ M S nn (nI pp) k k1 i2 i4) (cwV 1 hts g_X_41 rfl rfl rfl (by decide +kernel) ⟨Nat.le_of_ble_eq_true rfl, Nat.le_of_ble_eq_true rfl⟩) 0 0 rfl rfl rfl rfl hl.1 rfl (Nat.le_of_ble_eq_true rfl) d_X_join_7 ⟨Nat.le_of_ble_eq_true rfl, Nat.le_of_ble_eq_true rfl⟩ (fun r_9 u H locs hw hP hD hS => ?_)
  replace hP : va_P (dC, dI) vwCl [(h0, .inr (0, [.ref h1, .ref h2, .int (nI nn), .int (nI pp)])), (h1, .inl (cA, 512, .inl M)), (h2, .inl (cB, 512, .inl S))] H := hP
  replace hD : va_D A [(h0, .inr (0, [.ref h1, .ref h2, .int (nI nn), .int (nI pp)])), (h1, .inl (cA, 512, .inl M)), (h2, .inl (cB, 512, .inl S))] := hD
  subst hw
  have zg_k := zn_ge (zm M) nn (k + 1)
  have zh_k : zn (zm M) nn (k + 1) ≤ nn := zn_le (by omega)
  refine lv_istore_n (lv' := [(2, .int (nI (zn (zm M) nn (k + 1)))), (0, .ref h0), (1, .int (nI k))]) hx hb d_X_join_10 rfl hl (by decide) rfl (fun ls hl => ?_)
  refine lv_iload_n hx hb d_X_join_11 rfl (lv_at hl 0 rfl) ?_
  refine lv_aload_n hx hb d_X_join_12 rfl (lv_at hl 1 rfl) ?_
  refine va_get (D := (dC, dI)) (ci := 0) (v := .int (nI nn)) (C := RX) (T := TX) (N := 4) hx hb hts inX hown hK hP 0 rfl rfl 2 (by decide) (hts _ wl_X_27) (fun _ h9 => h9) rfl d_X_join_13 ?_
  refine lv_icmp_lt (tgt := 21) hx hb d_X_join_16 (by decide) (fun c1 => ?_) (fun c1 => ?_)
  · replace c1 : zn (zm M) nn (k + 1) < nn := (nI_ltI (a := zn (zm M) nn (k + 1)) (b := nn) (by omega) (by omega)).mp c1
    refine lv_aload_n hx hb d_X_join_21 rfl (lv_at hl 1 rfl) ?_
    refine lv_iload_n hx hb d_X_join_22 rfl (lv_at hl 2 rfl) ?_
    refine cc_Vi (wc := [(h0, .inr (0, [.ref h1, .ref h2, .int (nI nn), .int (nI pp)])), (h1, .inl (cA, 512, .inl M)), (h2, .inl (cB, 512, .inl S))]) (wr := []) (tys' := [(cA, .int), (cB, .int)]) ⟨hx, hb, hml, hown, hts⟩ hP hD hK hS hA [0, 1, 2] [] [0, 1] rfl rfl rfl (by decide) (by decide) (by decide) rfl (c_beginOf l dC dI h0 h1 h2 cA cB _ M S nn (nI pp) k (by omega) i3 (i6 _ (by omega))) (cwV 1 hts g_X_34 rfl rfl rfl (by decide +kernel) ⟨Nat.le_of_ble_eq_true rfl, Nat.le_of_ble_eq_true rfl⟩) 0 0 rfl rfl rfl rfl hl.1 rfl (Nat.le_of_ble_eq_true rfl) d_X_join_23 ⟨Nat.le_of_ble_eq_true rfl, Nat.le_of_ble_eq_true rfl⟩ (fun r_9 u H locs hw hP hD hS => ?_)
    replace hP : va_P (dC, dI) vwCl [(h0, .inr (0, [.ref h1, .ref h2, .int (nI nn), .int (nI pp)])), (h1, .inl (cA, 512, .inl M)), (h2, .inl (cB, 512, .inl S))] H := hP
    replace hD : va_D A [(h0, .inr (0, [.ref h1, .ref h2, .int (nI nn), .int (nI pp)])), (h1, .inl (cA, 512, .inl M)), (h2, .inl (cB, 512, .inl S))] := hD
    subst hw
    have zl_k := zb_le (zm M) k
    refine lv_istore_n (lv' := [(3, .int (nI (zb (zm M) k))), (2, .int (nI (zn (zm M) nn (k + 1)))), (0, .ref h0), (1, .int (nI k))]) hx hb d_X_join_26 rfl hl (by decide) rfl (fun ls hl => ?_)
    refine lv_aload_n hx hb d_X_join_27 rfl (lv_at hl 2 rfl) ?_
    refine lv_iload_n hx hb d_X_join_28 rfl (lv_at hl 1 rfl) ?_
    refine cc_Vi (wc := [(h0, .inr (0, [.ref h1, .ref h2, .int (nI nn), .int (nI pp)])), (h1, .inl (cA, 512, .inl M)), (h2, .inl (cB, 512, .inl S))]) (wr := []) (tys' := [(cA, .int), (cB, .int)]) ⟨hx, hb, hml, hown, hts⟩ hP hD hK hS hA [0, 1, 2] [] [0, 1] rfl rfl rfl (by decide) (by decide) (by decide) rfl (c_endOf l dC dI h0 h1 h2 cA cB _ M S nn (nI pp) (zn (zm M) nn (k + 1)) c1 i2 i4) (cwV 1 hts g_X_41 rfl rfl rfl (by decide +kernel) ⟨Nat.le_of_ble_eq_true rfl, Nat.le_of_ble_eq_true rfl⟩) 0 0 rfl rfl rfl rfl hl.1 rfl (Nat.le_of_ble_eq_true rfl) d_X_join_29 ⟨Nat.le_of_ble_eq_true rfl, Nat.le_of_ble_eq_true rfl⟩ (fun r_9 u H locs hw hP hD hS => ?_)
    replace hP : va_P (dC, dI) vwCl [(h0, .inr (0, [.ref h1, .ref h2, .int (nI nn), .int (nI pp)])), (h1, .inl (cA, 512, .inl M)), (h2, .inl (cB, 512, .inl S))] H := hP
    replace hD : va_D A [(h0, .inr (0, [.ref h1, .ref h2, .int (nI nn), .int (nI pp)])), (h1, .inl (cA, 512, .inl M)), (h2, .inl (cB, 512, .inl S))] := hD
    subst hw
    have zg_znzmMnnk1 := zn_ge (zm M) nn (zn (zm M) nn (k + 1) + 1)
    have zh_znzmMnnk1 : zn (zm M) nn (zn (zm M) nn (k + 1) + 1) ≤ nn := zn_le (by omega)
    refine lv_istore (lv' := [(4, .int (nI (zn (zm M) nn (zn (zm M) nn (k + 1) + 1)))), (3, .int (nI (zb (zm M) k))), (2, .int (nI (zn (zm M) nn (k + 1)))), (0, .ref h0), (1, .int (nI k))]) hx hb d_X_join_32 hl (by decide) rfl (fun ls hl => ?_)
    refine lv_aload_n hx hb d_X_join_34 rfl (lv_at hl 3 rfl) ?_
    refine lv_iload_n hx hb d_X_join_35 rfl (lv_at hl 1 rfl) ?_
    refine lv_iload hx hb d_X_join_36 (lv_at hl 0 rfl) ?_
    refine cc_Vv (wc := [(h0, .inr (0, [.ref h1, .ref h2, .int (nI nn), .int (nI pp)])), (h1, .inl (cA, 512, .inl M)), (h2, .inl (cB, 512, .inl S))]) (wr := []) (tys' := [(cA, .int), (cB, .int)]) ⟨hx, hb, hml, hown, hts⟩ hP hD hK hS hA [0, 1, 2] [] [0, 1] rfl rfl rfl (by decide) (by decide) (by decide) rfl (c_merge l dC dI h0 h1 h2 cA cB _ M S nn pp (zb (zm M) k) (zn (zm M) nn (zn (zm M) nn (k + 1) + 1)) g0 (by omega) (by omega) (zb_on i3 k) (z_nxo (by omega))) (cwV 2 hts g_X_44 rfl rfl rfl (by decide +kernel) ⟨Nat.le_of_ble_eq_true rfl, Nat.le_of_ble_eq_true rfl⟩) 0 0 rfl rfl rfl rfl hl.1 rfl (Nat.le_of_ble_eq_true rfl) d_X_join_38 ⟨Nat.le_of_ble_eq_true rfl, Nat.le_of_ble_eq_true rfl⟩ (fun u H locs hw hP hD hS => ?_)
    replace hP : va_P (dC, dI) vwCl [(h0, .inr (0, [.ref h1, .ref h2, .int (nI nn), .int (nI u.2.2)])), (h1, .inl (cA, 512, .inl u.1)), (h2, .inl (cB, 512, .inl u.2.1))] H := hP
    replace hD : va_D A [(h0, .inr (0, [.ref h1, .ref h2, .int (nI nn), .int (nI u.2.2)])), (h1, .inl (cA, 512, .inl u.1)), (h2, .inl (cB, 512, .inl u.2.1))] := hD
    refine lv_iload hx hb d_X_join_41 (lv_at hl 0 rfl) ?_
    refine lv_iload_n hx hb d_X_join_43 rfl (lv_at hl 1 rfl) ?_
    refine lv_isub hx hb d_X_join_44 ?_
    refine lv_topi (nm_r (show _ = nI ((zn (zm M) nn (zn (zm M) nn (k + 1) + 1)) - (zb (zm M) k)) from pk_sub (by omega)) ?_)
    refine W.widen (k := 1) (n := 6) (by decide) (by decide) ?_
    refine vx_ret ?_
    exact W.iret (v := nI ((zn (zm M) nn (zn (zm M) nn (k + 1) + 1)) - (zb (zm M) k))) hx hb hr (fun t9 ht9 hW9 => ⟨⟨nI ((zn (zm M) nn (zn (zm M) nn (k + 1) + 1)) - (zb (zm M) k)), u, rfl, ⟨k, k1, rfl, by rw [if_pos c1], hw.1, z_join1 k1 hw.2⟩, by rw [ht9]; exact hP, va_K.moved hW9.alike hK, hD⟩, hS.F ht9⟩) hS.2.2 d_X_join_45
  · replace c1 : ¬ (zn (zm M) nn (k + 1) < nn) := fun h9 => c1 ((nI_ltI (a := zn (zm M) nn (k + 1)) (b := nn) (by omega) (by omega)).mpr h9)
    refine lv_iconst (v := nI 0) hx hb d_X_join_19 (by decide) ?_
    refine W.widen (k := 1) (n := 6) (by decide) (by decide) ?_
    refine vx_ret ?_
    exact W.iret (v := nI 0) hx hb hr (fun t9 ht9 hW9 => ⟨⟨nI 0, (M, S, pp), rfl, ⟨k, k1, rfl, by rw [if_neg c1], g0, z_join0 (by omega) i4⟩, by rw [ht9]; exact hP, va_K.moved hW9.alike hK, hD⟩, hS.F ht9⟩) hS.2.2 d_X_join_20
