set_option maxHeartbeats 4000000 in
set_option maxRecDepth 100000 in
/-- checkCell(x) -/
theorem c_checkCell (l : Launch) (hlt : l.stackTraces = false) (dC : Nat → ClassId) (dI : Nat → Nat → Nat) (h0 h1 h2 : Nat) (cA cB : ClassId) (sz : Nat) (M S : Nat → Int32) (nn : Nat) (pv : Int32) (x : Int32) (g0 : nn ≤ 16384) : vx_Met l y_X_checkCell ws_X_checkCell ({ frames := 6, cells := 1, slots := 6, locals := 90 }) (va_Pc [.ref h0, .int x] (cx_P (dC, dI) vwCl (wX h0 h1 h2 cA cB M S (nI nn) pv) (tX cA cB) sz)) (va_Qv (S := Unit) (fun _ : Unit => ∃ k, k < nn ∧ x = nI k) (fun u t => cc_B (dC, dI) vwCl (tX cA cB) (va_A (wX h0 h1 h2 cA cB M S (nI nn) pv) sz) ((fun _ : Unit => (wX h0 h1 h2 cA cB M S (nI nn) pv)) u) t) (va_A (wX h0 h1 h2 cA cB M S (nI nn) pv) sz)) (cx_X (dC, dI) vwCl (tX cA cB) (wX h0 h1 h2 cA cB M S (nI nn) pv) (va_A (wX h0 h1 h2 cA cB M S (nI nn) pv) sz) "java/lang/IndexOutOfBoundsException" (¬ ∃ k, k < nn ∧ x = nI k)) 1 6 (va_A (wX h0 h1 h2 cA cB M S (nI nn) pv) sz) := by
  refine vx_ofW (cc := c_X_checkCell) (maxL := 2) (ret := none) (by decide) rfl ?_
  intro p e s m args below meth c s₁ B hml htab hv
  obtain ⟨rfl, ⟨hsz, hP, hK, hD0⟩, hZ⟩ := hv
  have hx := B.exec
  have hb := B.bytes
  have hr := B.returns
  have hts : ∀ w ∈ zAll, w.before _ s = true := fun w h => atoms_spec (ws := ws_X_checkCell) B.pre w (List.mem_cons_of_mem _ h)
  have hown : s.vm.findClass RX = some m.cls := findClass_of_methodNamed B.named
  have hlocks := B.notSynchronized
  subst hsz
  have hD := hD0.self (sz := s.heap.size)
  generalize hAe : va_A (wX h0 h1 h2 cA cB M S (nI nn) pv) s.heap.size = A at hD hZ ⊢
  have hA : ∀ q : Nat, s.heap.size ≤ q → A q := fun q h => by rw [← hAe]; exact Or.inr h
  have hS : va_S A s.heap s.heap [] := va_S.rf
  replace hP : va_P (dC, dI) vwCl [(h0, .inr (0, [.ref h1, .ref h2, .int (nI nn), .int pv])), (h1, .inl (cA, 512, .inl M)), (h2, .inl (cB, 512, .inl S))] s.heap := hP
  replace hD : va_D A [(h0, .inr (0, [.ref h1, .ref h2, .int (nI nn), .int pv])), (h1, .inl (cA, 512, .inl M)), (h2, .inl (cB, 512, .inl S))] := hD
  have hl := lv_entry ([.ref h0, .int x]) (n := 2) (Nat.le_of_ble_eq_true rfl)
  rw [lg_entry_eq]
  generalize (lg_sl ([.ref h0, .int x]) ++ List.replicate (2 - (lg_sl ([.ref h0, .int x])).length) Slot.unset).toArray = ls at hl ⊢
  replace hl : lv_has ls 2 [(0, .ref h0), (1, .int x)] := hl
  refine lv_iload_n hx hb d_X_checkCell_0 rfl (lv_at hl 1 rfl) ?_
  refine lv_if_lt (tgt := 12) hx hb d_X_checkCell_1 (by decide) (fun c1 => ?_) (fun c1 => ?_)
  · obtain ⟨sa, hsa⟩ := hZ.1 (RX, 74, "no such cell") (by decide +kernel)
    exact vx_throwS hx hb hlt (own := RX) (cls := "java/lang/IndexOutOfBoundsException") (names := ["java/lang/RuntimeException", "java/lang/Exception"]) hown (by decide +kernel) (by decide +kernel) (hts _ wl_X_48) (hts _ win_IndexOutOfBoundsException) hsa (vx_hat (L := vx_atS RX 52 "java/lang/IndexOutOfBoundsException" ["java/lang/RuntimeException", "java/lang/Exception"]) (fun w hw => hts w (wx_IndexOutOfBoundsException w hw)) wb_IndexOutOfBoundsException (fun w hw => va_Nw.use (zBad_on w hw) (hZ.2.1 w hw))) wg_IndexOutOfBoundsException hZ.2.2.1 hZ.2.2.2 hS (hl.1.trans hml.symm) d_X_checkCell_12 d_X_checkCell_15 d_X_checkCell_16 d_X_checkCell_18 d_X_checkCell_21 (fun x9 h9 => (htab x9 h9).elim) (by decide) (by decide) (by decide) (by decide) hlocks (fun t9 hal hz9 hk9 => ⟨(), fun ⟨k, k1, k2⟩ => nI_pos (n := k) (by omega) (by rw [← k2]; exact c1), ⟨rfl, va_P.kept hP (fun k9 q9 h9 => hk9 q9.1 (vx_lt hP h9)), va_K.moved hal hK, hD⟩, ⟨Nat.le_trans hS.1 hz9, fun q9 a1 a2 => (hk9 q9 (Nat.lt_of_lt_of_le a1 hS.1)).trans (hS.2.1 q9 a1 a2)⟩⟩) hS.2.2 (by decide) (by decide)
  · refine lv_iload_n hx hb d_X_checkCell_4 rfl (lv_at hl 1 rfl) ?_
    refine lv_aload_n hx hb d_X_checkCell_5 rfl (lv_at hl 0 rfl) ?_
    refine va_get (D := (dC, dI)) (ci := 0) (v := .int (nI nn)) (C := RX) (T := TX) (N := 4) hx hb hts inX hown hK hP 0 rfl rfl 2 (by decide) (hts _ wl_X_27) (fun _ h9 => h9) rfl d_X_checkCell_6 ?_
    refine lv_icmp_lt (tgt := 22) hx hb d_X_checkCell_9 (by decide) (fun c2 => ?_) (fun c2 => ?_)
    · refine W.widen (k := 1) (n := 6) (by decide) (by decide) ?_
      refine vx_ret ?_
      exact W.vret hx hb hr (fun t9 ht9 hW9 => ⟨⟨(), rfl, z_inof c1 c2 (by omega), by rw [ht9]; exact hP, va_K.moved hW9.alike hK, hD⟩, hS.F ht9⟩) hS.2.2 d_X_checkCell_22
    · obtain ⟨sa, hsa⟩ := hZ.1 (RX, 74, "no such cell") (by decide +kernel)
      exact vx_throwS hx hb hlt (own := RX) (cls := "java/lang/IndexOutOfBoundsException") (names := ["java/lang/RuntimeException", "java/lang/Exception"]) hown (by decide +kernel) (by decide +kernel) (hts _ wl_X_48) (hts _ win_IndexOutOfBoundsException) hsa (vx_hat (L := vx_atS RX 52 "java/lang/IndexOutOfBoundsException" ["java/lang/RuntimeException", "java/lang/Exception"]) (fun w hw => hts w (wx_IndexOutOfBoundsException w hw)) wb_IndexOutOfBoundsException (fun w hw => va_Nw.use (zBad_on w hw) (hZ.2.1 w hw))) wg_IndexOutOfBoundsException hZ.2.2.1 hZ.2.2.2 hS (hl.1.trans hml.symm) d_X_checkCell_12 d_X_checkCell_15 d_X_checkCell_16 d_X_checkCell_18 d_X_checkCell_21 (fun x9 h9 => (htab x9 h9).elim) (by decide) (by decide) (by decide) (by decide) hlocks (fun t9 hal hz9 hk9 => ⟨(), fun ⟨k, k1, k2⟩ => c2 (by rw [k2]; exact nI_lt k1 (by omega)), ⟨rfl, va_P.kept hP (fun k9 q9 h9 => hk9 q9.1 (vx_lt hP h9)), va_K.moved hal hK, hD⟩, ⟨Nat.le_trans hS.1 hz9, fun q9 a1 a2 => (hk9 q9 (Nat.lt_of_lt_of_le a1 hS.1)).trans (hS.2.1 q9 a1 a2)⟩⟩) hS.2.2 (by decide) (by decide)
set_option maxHeartbeats 4000000 in
set_option maxRecDepth 100000 in
/-- checkCard(x) -/
theorem c_checkCard (l : Launch) (hlt : l.stackTraces = false) (dC : Nat → ClassId) (dI : Nat → Nat → Nat) (h0 h1 h2 : Nat) (cA cB : ClassId) (sz : Nat) (M S : Nat → Int32) (nn : Nat) (pv : Int32) (x : Int32) (g0 : nn ≤ 16384) : vx_Met l y_X_checkCard ws_X_checkCard ({ frames := 6, cells := 1, slots := 6, locals := 90 }) (va_Pc [.ref h0, .int x] (cx_P (dC, dI) vwCl (wX h0 h1 h2 cA cB M S (nI nn) pv) (tX cA cB) sz)) (va_Qv (S := Unit) (fun _ : Unit => ∃ k, k < (nn + 31) / 32 ∧ x = nI k) (fun u t => cc_B (dC, dI) vwCl (tX cA cB) (va_A (wX h0 h1 h2 cA cB M S (nI nn) pv) sz) ((fun _ : Unit => (wX h0 h1 h2 cA cB M S (nI nn) pv)) u) t) (va_A (wX h0 h1 h2 cA cB M S (nI nn) pv) sz)) (cx_X (dC, dI) vwCl (tX cA cB) (wX h0 h1 h2 cA cB M S (nI nn) pv) (va_A (wX h0 h1 h2 cA cB M S (nI nn) pv) sz) "java/lang/IndexOutOfBoundsException" (¬ ∃ k, k < (nn + 31) / 32 ∧ x = nI k)) 1 6 (va_A (wX h0 h1 h2 cA cB M S (nI nn) pv) sz) := by
  refine vx_ofW (cc := c_X_checkCard) (maxL := 2) (ret := none) (by decide) rfl ?_
  intro p e s m args below meth c s₁ B hml htab hv
  obtain ⟨rfl, ⟨hsz, hP, hK, hD0⟩, hZ⟩ := hv
  have hx := B.exec
  have hb := B.bytes
  have hr := B.returns
  have hts : ∀ w ∈ zAll, w.before _ s = true := fun w h => atoms_spec (ws := ws_X_checkCard) B.pre w (List.mem_cons_of_mem _ h)
  have hown : s.vm.findClass RX = some m.cls := findClass_of_methodNamed B.named
  have hlocks := B.notSynchronized
  subst hsz
  have hD := hD0.self (sz := s.heap.size)
  generalize hAe : va_A (wX h0 h1 h2 cA cB M S (nI nn) pv) s.heap.size = A at hD hZ ⊢
  have hA : ∀ q : Nat, s.heap.size ≤ q → A q := fun q h => by rw [← hAe]; exact Or.inr h
  have hS : va_S A s.heap s.heap [] := va_S.rf
  replace hP : va_P (dC, dI) vwCl [(h0, .inr (0, [.ref h1, .ref h2, .int (nI nn), .int pv])), (h1, .inl (cA, 512, .inl M)), (h2, .inl (cB, 512, .inl S))] s.heap := hP
  replace hD : va_D A [(h0, .inr (0, [.ref h1, .ref h2, .int (nI nn), .int pv])), (h1, .inl (cA, 512, .inl M)), (h2, .inl (cB, 512, .inl S))] := hD
  have hl := lv_entry ([.ref h0, .int x]) (n := 2) (Nat.le_of_ble_eq_true rfl)
  rw [lg_entry_eq]
  generalize (lg_sl ([.ref h0, .int x]) ++ List.replicate (2 - (lg_sl ([.ref h0, .int x])).length) Slot.unset).toArray = ls at hl ⊢
  replace hl : lv_has ls 2 [(0, .ref h0), (1, .int x)] := hl
  refine lv_iload_n hx hb d_X_checkCard_0 rfl (lv_at hl 1 rfl) ?_
  refine lv_if_lt (tgt := 12) hx hb d_X_checkCard_1 (by decide) (fun c1 => ?_) (fun c1 => ?_)
  · obtain ⟨sa, hsa⟩ := hZ.1 (RX, 76, "no such card") (by decide +kernel)
    exact vx_throwS hx hb hlt (own := RX) (cls := "java/lang/IndexOutOfBoundsException") (names := ["java/lang/RuntimeException", "java/lang/Exception"]) hown (by decide +kernel) (by decide +kernel) (hts _ wl_X_48) (hts _ win_IndexOutOfBoundsException) hsa (vx_hat (L := vx_atS RX 52 "java/lang/IndexOutOfBoundsException" ["java/lang/RuntimeException", "java/lang/Exception"]) (fun w hw => hts w (wx_IndexOutOfBoundsException w hw)) wb_IndexOutOfBoundsException (fun w hw => va_Nw.use (zBad_on w hw) (hZ.2.1 w hw))) wg_IndexOutOfBoundsException hZ.2.2.1 hZ.2.2.2 hS (hl.1.trans hml.symm) d_X_checkCard_12 d_X_checkCard_15 d_X_checkCard_16 d_X_checkCard_18 d_X_checkCard_21 (fun x9 h9 => (htab x9 h9).elim) (by decide) (by decide) (by decide) (by decide) hlocks (fun t9 hal hz9 hk9 => ⟨(), fun ⟨k, k1, k2⟩ => nI_pos (n := k) (by omega) (by rw [← k2]; exact c1), ⟨rfl, va_P.kept hP (fun k9 q9 h9 => hk9 q9.1 (vx_lt hP h9)), va_K.moved hal hK, hD⟩, ⟨Nat.le_trans hS.1 hz9, fun q9 a1 a2 => (hk9 q9 (Nat.lt_of_lt_of_le a1 hS.1)).trans (hS.2.1 q9 a1 a2)⟩⟩) hS.2.2 (by decide) (by decide)
  · refine lv_iload_n hx hb d_X_checkCard_4 rfl (lv_at hl 1 rfl) ?_
    refine lv_aload_n hx hb d_X_checkCard_5 rfl (lv_at hl 0 rfl) ?_
    refine cc_Vi (wc := [(h0, .inr (0, [.ref h1, .ref h2, .int (nI nn), .int pv])), (h1, .inl (cA, 512, .inl M)), (h2, .inl (cB, 512, .inl S))]) (wr := []) (tys' := [(cA, .int), (cB, .int)]) ⟨hx, hb, hml, hown, hts⟩ hP hD hK hS hA [0, 1, 2] [] [0, 1] rfl rfl rfl (by decide) (by decide) (by decide) rfl (c_cardCount l dC dI h0 h1 h2 cA cB _ M S nn pv g0) (cwV 0 hts g_X_64 rfl rfl rfl (by decide +kernel) ⟨Nat.le_of_ble_eq_true rfl, Nat.le_of_ble_eq_true rfl⟩) 0 0 rfl rfl rfl rfl hl.1 rfl (Nat.le_of_ble_eq_true rfl) d_X_checkCard_6 ⟨Nat.le_of_ble_eq_true rfl, Nat.le_of_ble_eq_true rfl⟩ (fun r_9 u H locs hw hP hD hS => ?_)
    replace hP : va_P (dC, dI) vwCl [(h0, .inr (0, [.ref h1, .ref h2, .int (nI nn), .int pv])), (h1, .inl (cA, 512, .inl M)), (h2, .inl (cB, 512, .inl S))] H := hP
    replace hD : va_D A [(h0, .inr (0, [.ref h1, .ref h2, .int (nI nn), .int pv])), (h1, .inl (cA, 512, .inl M)), (h2, .inl (cB, 512, .inl S))] := hD
    subst hw
    refine lv_icmp_lt (tgt := 22) hx hb d_X_checkCard_9 (by decide) (fun c2 => ?_) (fun c2 => ?_)
    · refine W.widen (k := 1) (n := 6) (by decide) (by decide) ?_
      refine vx_ret ?_
      exact W.vret hx hb hr (fun t9 ht9 hW9 => ⟨⟨(), rfl, z_inof c1 c2 (by omega), by rw [ht9]; exact hP, va_K.moved hW9.alike hK, hD⟩, hS.F ht9⟩) hS.2.2 d_X_checkCard_22
    · obtain ⟨sa, hsa⟩ := hZ.1 (RX, 76, "no such card") (by decide +kernel)
      exact vx_throwS hx hb hlt (own := RX) (cls := "java/lang/IndexOutOfBoundsException") (names := ["java/lang/RuntimeException", "java/lang/Exception"]) hown (by decide +kernel) (by decide +kernel) (hts _ wl_X_48) (hts _ win_IndexOutOfBoundsException) hsa (vx_hat (L := vx_atS RX 52 "java/lang/IndexOutOfBoundsException" ["java/lang/RuntimeException", "java/lang/Exception"]) (fun w hw => hts w (wx_IndexOutOfBoundsException w hw)) wb_IndexOutOfBoundsException (fun w hw => va_Nw.use (zBad_on w hw) (hZ.2.1 w hw))) wg_IndexOutOfBoundsException hZ.2.2.1 hZ.2.2.2 hS (hl.1.trans hml.symm) d_X_checkCard_12 d_X_checkCard_15 d_X_checkCard_16 d_X_checkCard_18 d_X_checkCard_21 (fun x9 h9 => (htab x9 h9).elim) (by decide) (by decide) (by decide) (by decide) hlocks (fun t9 hal hz9 hk9 => ⟨(), fun ⟨k, k1, k2⟩ => c2 (by rw [k2]; exact nI_lt k1 (by omega)), ⟨rfl, va_P.kept hP (fun k9 q9 h9 => hk9 q9.1 (vx_lt hP h9)), va_K.moved hal hK, hD⟩, ⟨Nat.le_trans hS.1 hz9, fun q9 a1 a2 => (hk9 q9 (Nat.lt_of_lt_of_le a1 hS.1)).trans (hS.2.1 q9 a1 a2)⟩⟩) hS.2.2 (by decide) (by decide)
