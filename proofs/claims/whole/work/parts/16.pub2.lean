set_option maxHeartbeats 4000000 in
set_option maxRecDepth 100000 in
/-- make(x, z) -/
theorem c_make (l : Launch) (hlt : l.stackTraces = false) (dC : Nat → ClassId) (dI : Nat → Nat → Nat) (h0 h1 h2 : Nat) (cA cB : ClassId) (sz : Nat) (M S : Nat → Int32) (nn pp : Nat) (g0 : zCI nn pp M S) (x z : Int32) : vx_Met l y_X_make ws_X_make ({ frames := 7, cells := 2, slots := 12, locals := 111 }) (va_Pc [.ref h0, .int x, .int z] (cx_P (dC, dI) vwCl (wX h0 h1 h2 cA cB M S (nI nn) (nI pp)) (tX cA cB) sz)) (va_Qi (S := (Nat → Int32) × (Nat → Int32) × Nat) (fun (r : Int32) (u : (Nat → Int32) × (Nat → Int32) × Nat) => ∃ a b, x = nI a ∧ z = nI b ∧ a < b ∧ b ≤ nn ∧ r = nI u.2.2 ∧ zCI nn u.2.2 u.1 u.2.1 ∧ ∀ j, j < 16384 → zm u.1 j = ((zm M j || decide (j = a) || (decide (j = b) && decide (b < nn))) && !decide (a < j ∧ j < b))) (fun u t => cc_B (dC, dI) vwCl (tX cA cB) (va_A (wX h0 h1 h2 cA cB M S (nI nn) (nI pp)) sz) ((fun u : (Nat → Int32) × (Nat → Int32) × Nat => (wX h0 h1 h2 cA cB u.1 u.2.1 (nI nn) (nI u.2.2))) u) t) (va_A (wX h0 h1 h2 cA cB M S (nI nn) (nI pp)) sz)) (cx_X (dC, dI) vwCl (tX cA cB) (wX h0 h1 h2 cA cB M S (nI nn) (nI pp)) (va_A (wX h0 h1 h2 cA cB M S (nI nn) (nI pp)) sz) "java/lang/IndexOutOfBoundsException" (¬ ∃ a b, x = nI a ∧ z = nI b ∧ a < b ∧ b ≤ nn)) 2 12 (va_A (wX h0 h1 h2 cA cB M S (nI nn) (nI pp)) sz) := by
  refine vx_ofW (cc := c_X_make) (maxL := 3) (ret := (some .int)) (by decide) rfl ?_
  intro p e s m args below meth c s₁ B hml htab hv
  obtain ⟨rfl, ⟨hsz, hP, hK, hD0⟩, hZ⟩ := hv
  have hx := B.exec
  have hb := B.bytes
  have hr := B.returns
  have hts : ∀ w ∈ zAll, w.before _ s = true := fun w h => atoms_spec (ws := ws_X_make) B.pre w (List.mem_cons_of_mem _ h)
  have hown : s.vm.findClass RX = some m.cls := findClass_of_methodNamed B.named
  have hlocks := B.notSynchronized
  subst hsz
  have hD := hD0.self (sz := s.heap.size)
  generalize hAe : va_A (wX h0 h1 h2 cA cB M S (nI nn) (nI pp)) s.heap.size = A at hD hZ ⊢
  have hA : ∀ q : Nat, s.heap.size ≤ q → A q := fun q h => by rw [← hAe]; exact Or.inr h
  have hS : va_S A s.heap s.heap [] := va_S.rf
  replace hP : va_P (dC, dI) vwCl [(h0, .inr (0, [.ref h1, .ref h2, .int (nI nn), .int (nI pp)])), (h1, .inl (cA, 512, .inl M)), (h2, .inl (cB, 512, .inl S))] s.heap := hP
  replace hD : va_D A [(h0, .inr (0, [.ref h1, .ref h2, .int (nI nn), .int (nI pp)])), (h1, .inl (cA, 512, .inl M)), (h2, .inl (cB, 512, .inl S))] := hD
  have hl := lv_entry ([.ref h0, .int x, .int z]) (n := 3) (Nat.le_of_ble_eq_true rfl)
  rw [lg_entry_eq]
  generalize (lg_sl ([.ref h0, .int x, .int z]) ++ List.replicate (3 - (lg_sl ([.ref h0, .int x, .int z])).length) Slot.unset).toArray = ls at hl ⊢
  replace hl : lv_has ls 3 [(0, .ref h0), (1, .int x), (2, .int z)] := hl
  have gi := g0
  obtain ⟨i1, i2, i3, i4, i5, i6⟩ := gi
  have hpp : pp < 16385 := by (rw [i5]; have := zc_le (zm M) nn; omega)
  refine lv_aload_n hx hb d_X_make_0 rfl (lv_at hl 0 rfl) ?_
  refine lv_iload_n hx hb d_X_make_1 rfl (lv_at hl 1 rfl) ?_
  refine cx_Vv (wc := [(h0, .inr (0, [.ref h1, .ref h2, .int (nI nn), .int (nI pp)])), (h1, .inl (cA, 512, .inl M)), (h2, .inl (cB, 512, .inl S))]) (wr := []) (tys' := [(cA, .int), (cB, .int)]) ⟨hx, hb, hml, hown, hts⟩ hP hD hK hS hA hZ [0, 1, 2] [] [0, 1] rfl rfl rfl (by decide) (by decide) (by decide) rfl (c_checkCell l hlt dC dI h0 h1 h2 cA cB _ M S nn (nI pp) x i2) (cwV 1 hts g_X_31 rfl rfl rfl (by decide +kernel) ⟨Nat.le_of_ble_eq_true rfl, Nat.le_of_ble_eq_true rfl⟩) 0 0 rfl rfl rfl rfl hl.1 rfl (Nat.le_of_ble_eq_true rfl) d_X_make_2 ⟨Nat.le_of_ble_eq_true rfl, Nat.le_of_ble_eq_true rfl⟩ (fun ce q9 H locs hbad hP hD hS y1 y2 y3 => vx_out (fun x9 h9 => (htab x9 h9).elim) hlocks y1 y2 y3 (fun t9 ht9 hal => ⟨(), fun ⟨a, b, e1, e2, e3, e4⟩ => hbad ⟨a, by omega, e1⟩, ⟨rfl, by rw [ht9]; exact hP, va_K.moved hal hK, hD⟩, hS.F ht9⟩) hS.2.2 (by decide) (by decide)) (fun u H locs hw hP hD hS => ?_)
  replace hP : va_P (dC, dI) vwCl [(h0, .inr (0, [.ref h1, .ref h2, .int (nI nn), .int (nI pp)])), (h1, .inl (cA, 512, .inl M)), (h2, .inl (cB, 512, .inl S))] H := hP
  replace hD : va_D A [(h0, .inr (0, [.ref h1, .ref h2, .int (nI nn), .int (nI pp)])), (h1, .inl (cA, 512, .inl M)), (h2, .inl (cB, 512, .inl S))] := hD
  obtain ⟨k, k1, rfl⟩ := hw
  refine lv_iload_n hx hb d_X_make_5 rfl (lv_at hl 2 rfl) ?_
  refine lv_iload_n hx hb d_X_make_6 rfl (lv_at hl 1 rfl) ?_
  refine lv_icmp_le (tgt := 18) hx hb d_X_make_7 (by decide) (fun c1 => ?_) (fun c1 => ?_)
  · obtain ⟨sa, hsa⟩ := hZ.1 (RX, 50, "no such end of a piece") (by decide +kernel)
    exact vx_throwS hx hb hlt (own := RX) (cls := "java/lang/IndexOutOfBoundsException") (names := ["java/lang/RuntimeException", "java/lang/Exception"]) hown (by decide +kernel) (by decide +kernel) (hts _ wl_X_48) (hts _ win_IndexOutOfBoundsException) hsa (vx_hat (L := vx_atS RX 52 "java/lang/IndexOutOfBoundsException" ["java/lang/RuntimeException", "java/lang/Exception"]) (fun w hw => hts w (wx_IndexOutOfBoundsException w hw)) wb_IndexOutOfBoundsException (fun w hw => va_Nw.use (zBad_on w hw) (hZ.2.1 w hw))) wg_IndexOutOfBoundsException hZ.2.2.1 hZ.2.2.2 hS (hl.1.trans hml.symm) d_X_make_18 d_X_make_21 d_X_make_22 d_X_make_24 d_X_make_27 (fun x9 h9 => (htab x9 h9).elim) (by decide) (by decide) (by decide) (by decide) hlocks (fun t9 hal hz9 hk9 => ⟨(), fun ⟨a, b, e1, e2, e3, e4⟩ => by (have e5 : k = a := (nI_eq (by omega) (by omega)).mp e1; rw [e2] at c1; exact nI_ge (show k < b by omega) (by omega) c1), ⟨rfl, va_P.kept hP (fun k9 q9 h9 => hk9 q9.1 (vx_lt hP h9)), va_K.moved hal hK, hD⟩, ⟨Nat.le_trans hS.1 hz9, fun q9 a1 a2 => (hk9 q9 (Nat.lt_of_lt_of_le a1 hS.1)).trans (hS.2.1 q9 a1 a2)⟩⟩) hS.2.2 (by decide) (by decide)
  · refine lv_iload_n hx hb d_X_make_10 rfl (lv_at hl 2 rfl) ?_
    refine lv_aload_n hx hb d_X_make_11 rfl (lv_at hl 0 rfl) ?_
    refine va_get (D := (dC, dI)) (ci := 0) (v := .int (nI nn)) (C := RX) (T := TX) (N := 4) hx hb hts inX hown hK hP 0 rfl rfl 2 (by decide) (hts _ wl_X_27) (fun _ h9 => h9) rfl d_X_make_12 ?_
    refine lv_icmp_le (tgt := 28) hx hb d_X_make_15 (by decide) (fun c2 => ?_) (fun c2 => ?_)
    · obtain ⟨b, b1, b2, rfl⟩ := z_mkof c1 c2 (by omega)
      refine lv_aload_n hx hb d_X_make_28 rfl (lv_at hl 0 rfl) ?_
      refine lv_iload_n hx hb d_X_make_29 rfl (lv_at hl 1 rfl) ?_
      refine cc_Vv (wc := [(h0, .inr (0, [.ref h1, .ref h2, .int (nI nn), .int (nI pp)])), (h1, .inl (cA, 512, .inl M)), (h2, .inl (cB, 512, .inl S))]) (wr := []) (tys' := [(cA, .int), (cB, .int)]) ⟨hx, hb, hml, hown, hts⟩ hP hD hK hS hA [0, 1, 2] [] [0, 1] rfl rfl rfl (by decide) (by decide) (by decide) rfl (c_cutAt l dC dI h0 h1 h2 cA cB _ M S nn pp k g0 k1) (cwV 1 hts g_X_38 rfl rfl rfl (by decide +kernel) ⟨Nat.le_of_ble_eq_true rfl, Nat.le_of_ble_eq_true rfl⟩) 0 0 rfl rfl rfl rfl hl.1 rfl (Nat.le_of_ble_eq_true rfl) d_X_make_30 ⟨Nat.le_of_ble_eq_true rfl, Nat.le_of_ble_eq_true rfl⟩ (fun u H locs hw hP hD hS => ?_)
      replace hP : va_P (dC, dI) vwCl [(h0, .inr (0, [.ref h1, .ref h2, .int (nI nn), .int (nI u.2.2)])), (h1, .inl (cA, 512, .inl u.1)), (h2, .inl (cB, 512, .inl u.2.1))] H := hP
      replace hD : va_D A [(h0, .inr (0, [.ref h1, .ref h2, .int (nI nn), .int (nI u.2.2)])), (h1, .inl (cA, 512, .inl u.1)), (h2, .inl (cB, 512, .inl u.2.1))] := hD
      obtain ⟨M1, S1, p1⟩ := u
      obtain ⟨g2, hM1⟩ := hw
      dsimp only at g2 hM1
      replace hP : va_P (dC, dI) vwCl [(h0, .inr (0, [.ref h1, .ref h2, .int (nI nn), .int (nI p1)])), (h1, .inl (cA, 512, .inl M1)), (h2, .inl (cB, 512, .inl S1))] H := hP
      replace hD : va_D A [(h0, .inr (0, [.ref h1, .ref h2, .int (nI nn), .int (nI p1)])), (h1, .inl (cA, 512, .inl M1)), (h2, .inl (cB, 512, .inl S1))] := hD
      refine lv_iload_n hx hb d_X_make_33 rfl (lv_at hl 2 rfl) ?_
      refine lv_aload_n hx hb d_X_make_34 rfl (lv_at hl 0 rfl) ?_
      refine va_get (D := (dC, dI)) (ci := 0) (v := .int (nI nn)) (C := RX) (T := TX) (N := 4) hx hb hts inX hown hK hP 0 rfl rfl 2 (by decide) (hts _ wl_X_27) (fun _ h9 => h9) rfl d_X_make_35 ?_
      refine lv_icmp_ge (tgt := 46) hx hb d_X_make_38 (by decide) (fun c3 => ?_) (fun c3 => ?_)
      · replace c3 : nn ≤ b := (nI_leI (a := nn) (b := b) (by omega) (by omega)).mp c3
        refine lv_aload_n hx hb d_X_make_46 rfl (lv_at hl 0 rfl) ?_
        refine lv_iload_n hx hb d_X_make_47 rfl (lv_at hl 1 rfl) ?_
        refine lv_iload_n hx hb d_X_make_48 rfl (lv_at hl 2 rfl) ?_
        refine cc_Vv (wc := [(h0, .inr (0, [.ref h1, .ref h2, .int (nI nn), .int (nI p1)])), (h1, .inl (cA, 512, .inl M1)), (h2, .inl (cB, 512, .inl S1))]) (wr := []) (tys' := [(cA, .int), (cB, .int)]) ⟨hx, hb, hml, hown, hts⟩ hP hD hK hS hA [0, 1, 2] [] [0, 1] rfl rfl rfl (by decide) (by decide) (by decide) rfl (c_merge l dC dI h0 h1 h2 cA cB _ M1 S1 nn p1 k b g2 (by omega) (by omega) (by rw [hM1, decide_eq_true rfl, Bool.or_true]) (Or.inl (by omega))) (cwV 2 hts g_X_44 rfl rfl rfl (by decide +kernel) ⟨Nat.le_of_ble_eq_true rfl, Nat.le_of_ble_eq_true rfl⟩) 0 0 rfl rfl rfl rfl hl.1 rfl (Nat.le_of_ble_eq_true rfl) d_X_make_49 ⟨Nat.le_of_ble_eq_true rfl, Nat.le_of_ble_eq_true rfl⟩ (fun u H locs hw hP hD hS => ?_)
        replace hP : va_P (dC, dI) vwCl [(h0, .inr (0, [.ref h1, .ref h2, .int (nI nn), .int (nI u.2.2)])), (h1, .inl (cA, 512, .inl u.1)), (h2, .inl (cB, 512, .inl u.2.1))] H := hP
        replace hD : va_D A [(h0, .inr (0, [.ref h1, .ref h2, .int (nI nn), .int (nI u.2.2)])), (h1, .inl (cA, 512, .inl u.1)), (h2, .inl (cB, 512, .inl u.2.1))] := hD
        refine lv_aload_n hx hb d_X_make_52 rfl (lv_at hl 0 rfl) ?_
        refine va_get (D := (dC, dI)) (ci := 0) (v := .int (nI u.2.2)) (C := RX) (T := TX) (N := 4) hx hb hts inX hown hK hP 0 rfl rfl 3 (by decide) (hts _ wl_X_53) (fun _ h9 => h9) rfl d_X_make_53 ?_
        refine W.widen (k := 2) (n := 12) (by decide) (by decide) ?_
        refine vx_ret ?_
        exact W.iret (v := nI u.2.2) hx hb hr (fun t9 ht9 hW9 => ⟨⟨nI u.2.2, u, rfl, ⟨k, b, rfl, rfl, b1, b2, rfl, hw.1, z_make0 (by omega) hM1 hw.2⟩, by rw [ht9]; exact hP, va_K.moved hW9.alike hK, hD⟩, hS.F ht9⟩) hS.2.2 d_X_make_56
      · replace c3 : ¬ (nn ≤ b) := fun h9 => c3 ((nI_leI (a := nn) (b := b) (by omega) (by omega)).mpr h9)
        refine lv_aload_n hx hb d_X_make_41 rfl (lv_at hl 0 rfl) ?_
        refine lv_iload_n hx hb d_X_make_42 rfl (lv_at hl 2 rfl) ?_
        refine cc_Vv (wc := [(h0, .inr (0, [.ref h1, .ref h2, .int (nI nn), .int (nI p1)])), (h1, .inl (cA, 512, .inl M1)), (h2, .inl (cB, 512, .inl S1))]) (wr := []) (tys' := [(cA, .int), (cB, .int)]) ⟨hx, hb, hml, hown, hts⟩ hP hD hK hS hA [0, 1, 2] [] [0, 1] rfl rfl rfl (by decide) (by decide) (by decide) rfl (c_cutAt l dC dI h0 h1 h2 cA cB _ M1 S1 nn p1 b g2 (by omega)) (cwV 1 hts g_X_38 rfl rfl rfl (by decide +kernel) ⟨Nat.le_of_ble_eq_true rfl, Nat.le_of_ble_eq_true rfl⟩) 0 0 rfl rfl rfl rfl hl.1 rfl (Nat.le_of_ble_eq_true rfl) d_X_make_43 ⟨Nat.le_of_ble_eq_true rfl, Nat.le_of_ble_eq_true rfl⟩ (fun u H locs hw hP hD hS => ?_)
        replace hP : va_P (dC, dI) vwCl [(h0, .inr (0, [.ref h1, .ref h2, .int (nI nn), .int (nI u.2.2)])), (h1, .inl (cA, 512, .inl u.1)), (h2, .inl (cB, 512, .inl u.2.1))] H := hP
        replace hD : va_D A [(h0, .inr (0, [.ref h1, .ref h2, .int (nI nn), .int (nI u.2.2)])), (h1, .inl (cA, 512, .inl u.1)), (h2, .inl (cB, 512, .inl u.2.1))] := hD
        obtain ⟨M2, S2, p2⟩ := u
        obtain ⟨g3, hM2⟩ := hw
        dsimp only at g3 hM2
        replace hP : va_P (dC, dI) vwCl [(h0, .inr (0, [.ref h1, .ref h2, .int (nI nn), .int (nI p2)])), (h1, .inl (cA, 512, .inl M2)), (h2, .inl (cB, 512, .inl S2))] H := hP
        replace hD : va_D A [(h0, .inr (0, [.ref h1, .ref h2, .int (nI nn), .int (nI p2)])), (h1, .inl (cA, 512, .inl M2)), (h2, .inl (cB, 512, .inl S2))] := hD
        refine lv_aload_n hx hb d_X_make_46 rfl (lv_at hl 0 rfl) ?_
        refine lv_iload_n hx hb d_X_make_47 rfl (lv_at hl 1 rfl) ?_
        refine lv_iload_n hx hb d_X_make_48 rfl (lv_at hl 2 rfl) ?_
        refine cc_Vv (wc := [(h0, .inr (0, [.ref h1, .ref h2, .int (nI nn), .int (nI p2)])), (h1, .inl (cA, 512, .inl M2)), (h2, .inl (cB, 512, .inl S2))]) (wr := []) (tys' := [(cA, .int), (cB, .int)]) ⟨hx, hb, hml, hown, hts⟩ hP hD hK hS hA [0, 1, 2] [] [0, 1] rfl rfl rfl (by decide) (by decide) (by decide) rfl (c_merge l dC dI h0 h1 h2 cA cB _ M2 S2 nn p2 k b g3 (by omega) (by omega) (by rw [hM2, hM1, decide_eq_true rfl, Bool.or_true, Bool.true_or]) (Or.inr (by rw [hM2, decide_eq_true rfl, Bool.or_true]))) (cwV 2 hts g_X_44 rfl rfl rfl (by decide +kernel) ⟨Nat.le_of_ble_eq_true rfl, Nat.le_of_ble_eq_true rfl⟩) 0 0 rfl rfl rfl rfl hl.1 rfl (Nat.le_of_ble_eq_true rfl) d_X_make_49 ⟨Nat.le_of_ble_eq_true rfl, Nat.le_of_ble_eq_true rfl⟩ (fun u H locs hw hP hD hS => ?_)
        replace hP : va_P (dC, dI) vwCl [(h0, .inr (0, [.ref h1, .ref h2, .int (nI nn), .int (nI u.2.2)])), (h1, .inl (cA, 512, .inl u.1)), (h2, .inl (cB, 512, .inl u.2.1))] H := hP
        replace hD : va_D A [(h0, .inr (0, [.ref h1, .ref h2, .int (nI nn), .int (nI u.2.2)])), (h1, .inl (cA, 512, .inl u.1)), (h2, .inl (cB, 512, .inl u.2.1))] := hD
        refine lv_aload_n hx hb d_X_make_52 rfl (lv_at hl 0 rfl) ?_
        refine va_get (D := (dC, dI)) (ci := 0) (v := .int (nI u.2.2)) (C := RX) (T := TX) (N := 4) hx hb hts inX hown hK hP 0 rfl rfl 3 (by decide) (hts _ wl_X_53) (fun _ h9 => h9) rfl d_X_make_53 ?_
        refine W.widen (k := 2) (n := 12) (by decide) (by decide) ?_
        refine vx_ret ?_
        exact W.iret (v := nI u.2.2) hx hb hr (fun t9 ht9 hW9 => ⟨⟨nI u.2.2, u, rfl, ⟨k, b, rfl, rfl, b1, b2, rfl, hw.1, z_make1 (by omega) hM1 hM2 hw.2⟩, by rw [ht9]; exact hP, va_K.moved hW9.alike hK, hD⟩, hS.F ht9⟩) hS.2.2 d_X_make_56
    · obtain ⟨sa, hsa⟩ := hZ.1 (RX, 50, "no such end of a piece") (by decide +kernel)
      exact vx_throwS hx hb hlt (own := RX) (cls := "java/lang/IndexOutOfBoundsException") (names := ["java/lang/RuntimeException", "java/lang/Exception"]) hown (by decide +kernel) (by decide +kernel) (hts _ wl_X_48) (hts _ win_IndexOutOfBoundsException) hsa (vx_hat (L := vx_atS RX 52 "java/lang/IndexOutOfBoundsException" ["java/lang/RuntimeException", "java/lang/Exception"]) (fun w hw => hts w (wx_IndexOutOfBoundsException w hw)) wb_IndexOutOfBoundsException (fun w hw => va_Nw.use (zBad_on w hw) (hZ.2.1 w hw))) wg_IndexOutOfBoundsException hZ.2.2.1 hZ.2.2.2 hS (hl.1.trans hml.symm) d_X_make_18 d_X_make_21 d_X_make_22 d_X_make_24 d_X_make_27 (fun x9 h9 => (htab x9 h9).elim) (by decide) (by decide) (by decide) (by decide) hlocks (fun t9 hal hz9 hk9 => ⟨(), fun ⟨a, b, e1, e2, e3, e4⟩ => c2 (by rw [e2]; exact nI_le e4 (by omega)), ⟨rfl, va_P.kept hP (fun k9 q9 h9 => hk9 q9.1 (vx_lt hP h9)), va_K.moved hal hK, hD⟩, ⟨Nat.le_trans hS.1 hz9, fun q9 a1 a2 => (hk9 q9 (Nat.lt_of_lt_of_le a1 hS.1)).trans (hS.2.1 q9 a1 a2)⟩⟩) hS.2.2 (by decide) (by decide)
set_option maxHeartbeats 4000000 in
set_option maxRecDepth 100000 in
/-- space(x) -/
theorem c_space (l : Launch) (hlt : l.stackTraces = false) (dC : Nat → ClassId) (dI : Nat → Nat → Nat) (h0 h1 h2 : Nat) (cA cB : ClassId) (sz : Nat) (M S : Nat → Int32) (nn pp : Nat) (g0 : zCI nn pp M S) (x : Int32) : vx_Met l y_X_space ws_X_space ({ frames := 6, cells := 1, slots := 6, locals := 90 }) (va_Pc [.ref h0, .int x] (cx_P (dC, dI) vwCl (wX h0 h1 h2 cA cB M S (nI nn) (nI pp)) (tX cA cB) sz)) (va_Qi (S := Nat × (Nat → Int32) × (Nat → Int32)) (fun (r : Int32) (u : Nat × (Nat → Int32) × (Nat → Int32)) => x = nI u.1 ∧ 1 ≤ u.1 ∧ u.1 ≤ 16384 ∧ r = nI nn ∧ zCI u.1 1 u.2.1 u.2.2 ∧ ∀ j, j < 16384 → zm u.2.1 j = decide (j = 0)) (fun u t => cc_B (dC, dI) vwCl (tX cA cB) (va_A (wX h0 h1 h2 cA cB M S (nI nn) (nI pp)) sz) ((fun u : Nat × (Nat → Int32) × (Nat → Int32) => (wX h0 h1 h2 cA cB u.2.1 u.2.2 (nI u.1) (nI 1))) u) t) (va_A (wX h0 h1 h2 cA cB M S (nI nn) (nI pp)) sz)) (cx_X (dC, dI) vwCl (tX cA cB) (wX h0 h1 h2 cA cB M S (nI nn) (nI pp)) (va_A (wX h0 h1 h2 cA cB M S (nI nn) (nI pp)) sz) "java/lang/IllegalArgumentException" (¬ ∃ k, x = nI k ∧ 1 ≤ k ∧ k ≤ 16384)) 1 6 (va_A (wX h0 h1 h2 cA cB M S (nI nn) (nI pp)) sz) := by
  refine vx_ofW (cc := c_X_space) (maxL := 3) (ret := (some .int)) (by decide) rfl ?_
  intro p e s m args below meth c s₁ B hml htab hv
  obtain ⟨rfl, ⟨hsz, hP, hK, hD0⟩, hZ⟩ := hv
  have hx := B.exec
  have hb := B.bytes
  have hr := B.returns
  have hts : ∀ w ∈ zAll, w.before _ s = true := fun w h => atoms_spec (ws := ws_X_space) B.pre w (List.mem_cons_of_mem _ h)
  have hown : s.vm.findClass RX = some m.cls := findClass_of_methodNamed B.named
  have hlocks := B.notSynchronized
  subst hsz
  have hD := hD0.self (sz := s.heap.size)
  generalize hAe : va_A (wX h0 h1 h2 cA cB M S (nI nn) (nI pp)) s.heap.size = A at hD hZ ⊢
  have hA : ∀ q : Nat, s.heap.size ≤ q → A q := fun q h => by rw [← hAe]; exact Or.inr h
  have hS : va_S A s.heap s.heap [] := va_S.rf
  replace hP : va_P (dC, dI) vwCl [(h0, .inr (0, [.ref h1, .ref h2, .int (nI nn), .int (nI pp)])), (h1, .inl (cA, 512, .inl M)), (h2, .inl (cB, 512, .inl S))] s.heap := hP
  replace hD : va_D A [(h0, .inr (0, [.ref h1, .ref h2, .int (nI nn), .int (nI pp)])), (h1, .inl (cA, 512, .inl M)), (h2, .inl (cB, 512, .inl S))] := hD
  have hl := lv_entry ([.ref h0, .int x]) (n := 3) (Nat.le_of_ble_eq_true rfl)
  rw [lg_entry_eq]
  generalize (lg_sl ([.ref h0, .int x]) ++ List.replicate (3 - (lg_sl ([.ref h0, .int x])).length) Slot.unset).toArray = ls at hl ⊢
  replace hl : lv_has ls 3 [(0, .ref h0), (1, .int x)] := hl
  have gi := g0
  obtain ⟨i1, i2, i3, i4, i5, i6⟩ := gi
  have hpp : pp < 16385 := by (rw [i5]; have := zc_le (zm M) nn; omega)
  refine lv_iload_n hx hb d_X_space_0 rfl (lv_at hl 1 rfl) ?_
  refine lv_iconst (v := nI 1) hx hb d_X_space_1 (by decide) ?_
  refine lv_icmp_lt (tgt := 12) hx hb d_X_space_2 (by decide) (fun c1 => ?_) (fun c1 => ?_)
  · obtain ⟨sa, hsa⟩ := hZ.1 (RX, 22, "there are 1 to 16384 cells") (by decide +kernel)
    exact vx_throwS hx hb hlt (own := RX) (cls := "java/lang/IllegalArgumentException") (names := ["java/lang/RuntimeException", "java/lang/Exception"]) hown (by decide +kernel) (by decide +kernel) (hts _ wl_X_20) (hts _ win_IllegalArgumentException) hsa (vx_hat (L := vx_atS RX 24 "java/lang/IllegalArgumentException" ["java/lang/RuntimeException", "java/lang/Exception"]) (fun w hw => hts w (wx_IllegalArgumentException w hw)) wb_IllegalArgumentException (fun w hw => va_Nw.use (zBad_on w hw) (hZ.2.1 w hw))) wg_IllegalArgumentException hZ.2.2.1 hZ.2.2.2 hS (hl.1.trans hml.symm) d_X_space_12 d_X_space_15 d_X_space_16 d_X_space_18 d_X_space_21 (fun x9 h9 => (htab x9 h9).elim) (by decide) (by decide) (by decide) (by decide) hlocks (fun t9 hal hz9 hk9 => ⟨(), fun ⟨k, e1, e2, e3⟩ => by (rw [e1] at c1; exact nI_nlt e2 (by omega) c1), ⟨rfl, va_P.kept hP (fun k9 q9 h9 => hk9 q9.1 (vx_lt hP h9)), va_K.moved hal hK, hD⟩, ⟨Nat.le_trans hS.1 hz9, fun q9 a1 a2 => (hk9 q9 (Nat.lt_of_lt_of_le a1 hS.1)).trans (hS.2.1 q9 a1 a2)⟩⟩) hS.2.2 (by decide) (by decide)
  · refine lv_iload_n hx hb d_X_space_5 rfl (lv_at hl 1 rfl) ?_
    refine lv_sipush (v := nI 16384) hx hb d_X_space_6 (by decide) ?_
    refine lv_icmp_le (tgt := 22) hx hb d_X_space_9 (by decide) (fun c2 => ?_) (fun c2 => ?_)
    · obtain ⟨k, k1, k2, rfl⟩ := z_spof c1 c2
      refine lv_aload_n hx hb d_X_space_22 rfl (lv_at hl 0 rfl) ?_
      refine va_get (D := (dC, dI)) (ci := 0) (v := .int (nI nn)) (C := RX) (T := TX) (N := 4) hx hb hts inX hown hK hP 0 rfl rfl 2 (by decide) (hts _ wl_X_27) (fun _ h9 => h9) rfl d_X_space_23 ?_
      refine lv_istore_n (lv' := [(2, .int (nI nn)), (0, .ref h0), (1, .int (nI k))]) hx hb d_X_space_26 rfl hl (by decide) rfl (fun ls hl => ?_)
      refine lv_aload_n hx hb d_X_space_27 rfl (lv_at hl 1 rfl) ?_
      refine lv_iload_n hx hb d_X_space_28 rfl (lv_at hl 2 rfl) ?_
      refine cc_Vv (wc := [(h0, .inr (0, [.ref h1, .ref h2, .int (nI nn), .int (nI pp)])), (h1, .inl (cA, 512, .inl M)), (h2, .inl (cB, 512, .inl S))]) (wr := []) (tys' := [(cA, .int), (cB, .int)]) ⟨hx, hb, hml, hown, hts⟩ hP hD hK hS hA [0, 1, 2] [] [0, 1] rfl rfl rfl (by decide) (by decide) (by decide) rfl (c_layOnePiece l dC dI h0 h1 h2 cA cB _ M S (nI nn) (nI pp) k k1 k2) (cwV 1 hts g_X_16 rfl rfl rfl (by decide +kernel) ⟨Nat.le_of_ble_eq_true rfl, Nat.le_of_ble_eq_true rfl⟩) 0 0 rfl rfl rfl rfl hl.1 rfl (Nat.le_of_ble_eq_true rfl) d_X_space_29 ⟨Nat.le_of_ble_eq_true rfl, Nat.le_of_ble_eq_true rfl⟩ (fun u H locs hw hP hD hS => ?_)
      replace hP : va_P (dC, dI) vwCl [(h0, .inr (0, [.ref h1, .ref h2, .int (nI k), .int (nI 1)])), (h1, .inl (cA, 512, .inl u.1)), (h2, .inl (cB, 512, .inl u.2))] H := hP
      replace hD : va_D A [(h0, .inr (0, [.ref h1, .ref h2, .int (nI k), .int (nI 1)])), (h1, .inl (cA, 512, .inl u.1)), (h2, .inl (cB, 512, .inl u.2))] := hD
      refine lv_iload_n hx hb d_X_space_32 rfl (lv_at hl 0 rfl) ?_
      refine W.widen (k := 1) (n := 6) (by decide) (by decide) ?_
      refine vx_ret ?_
      exact W.iret (v := nI nn) hx hb hr (fun t9 ht9 hW9 => ⟨⟨nI nn, (k, u.1, u.2), rfl, ⟨rfl, k1, k2, rfl, hw⟩, by rw [ht9]; exact hP, va_K.moved hW9.alike hK, hD⟩, hS.F ht9⟩) hS.2.2 d_X_space_33
    · obtain ⟨sa, hsa⟩ := hZ.1 (RX, 22, "there are 1 to 16384 cells") (by decide +kernel)
      exact vx_throwS hx hb hlt (own := RX) (cls := "java/lang/IllegalArgumentException") (names := ["java/lang/RuntimeException", "java/lang/Exception"]) hown (by decide +kernel) (by decide +kernel) (hts _ wl_X_20) (hts _ win_IllegalArgumentException) hsa (vx_hat (L := vx_atS RX 24 "java/lang/IllegalArgumentException" ["java/lang/RuntimeException", "java/lang/Exception"]) (fun w hw => hts w (wx_IllegalArgumentException w hw)) wb_IllegalArgumentException (fun w hw => va_Nw.use (zBad_on w hw) (hZ.2.1 w hw))) wg_IllegalArgumentException hZ.2.2.1 hZ.2.2.2 hS (hl.1.trans hml.symm) d_X_space_12 d_X_space_15 d_X_space_16 d_X_space_18 d_X_space_21 (fun x9 h9 => (htab x9 h9).elim) (by decide) (by decide) (by decide) (by decide) hlocks (fun t9 hal hz9 hk9 => ⟨(), fun ⟨k, e1, e2, e3⟩ => c2 (by rw [e1]; exact nI_le e3 (by omega)), ⟨rfl, va_P.kept hP (fun k9 q9 h9 => hk9 q9.1 (vx_lt hP h9)), va_K.moved hal hK, hD⟩, ⟨Nat.le_trans hS.1 hz9, fun q9 a1 a2 => (hk9 q9 (Nat.lt_of_lt_of_le a1 hS.1)).trans (hS.2.1 q9 a1 a2)⟩⟩) hS.2.2 (by decide) (by decide)
set_option maxHeartbeats 4000000 in
set_option maxRecDepth 100000 in
/-- count(x) -/
theorem c_count (l : Launch) (hlt : l.stackTraces = false) (dC : Nat → ClassId) (dI : Nat → Nat → Nat) (h0 h1 h2 : Nat) (cA cB : ClassId) (sz : Nat) (M S : Nat → Int32) (nn pp : Nat) (g0 : zCI nn pp M S) (x : Int32) : vx_Met l y_X_count ws_X_count ({ frames := 6, cells := 1, slots := 6, locals := 93 }) (va_Pc [.ref h0, .int x] (cx_P (dC, dI) vwCl (wX h0 h1 h2 cA cB M S (nI nn) (nI pp)) (tX cA cB) sz)) (va_Qi (S := Unit) (fun (r : Int32) (u : Unit) => (x = nI 0 ∧ r = nI (nn)) ∨ (x = nI 1 ∧ r = nI ((nn + 31) / 32)) ∨ (x = nI 2 ∧ r = nI (pp)) ∨ (x = nI 3 ∧ r = nI (zF max (zm M) nn (pp - 1) (zn (zm M) nn 1) (zn (zm M) nn 1))) ∨ (x = nI 4 ∧ r = nI (zF min (zm M) nn (pp - 1) (zn (zm M) nn 1) (zn (zm M) nn 1)))) (fun u t => cc_B (dC, dI) vwCl (tX cA cB) (va_A (wX h0 h1 h2 cA cB M S (nI nn) (nI pp)) sz) ((fun _ : Unit => (wX h0 h1 h2 cA cB M S (nI nn) (nI pp))) u) t) (va_A (wX h0 h1 h2 cA cB M S (nI nn) (nI pp)) sz)) (cx_X (dC, dI) vwCl (tX cA cB) (wX h0 h1 h2 cA cB M S (nI nn) (nI pp)) (va_A (wX h0 h1 h2 cA cB M S (nI nn) (nI pp)) sz) "java/lang/IllegalArgumentException" (¬ (x = nI 0 ∨ x = nI 1 ∨ x = nI 2 ∨ x = nI 3 ∨ x = nI 4))) 1 6 (va_A (wX h0 h1 h2 cA cB M S (nI nn) (nI pp)) sz) := by
  refine vx_ofW (cc := c_X_count) (maxL := 2) (ret := (some .int)) (by decide) rfl ?_
  intro p e s m args below meth c s₁ B hml htab hv
  obtain ⟨rfl, ⟨hsz, hP, hK, hD0⟩, hZ⟩ := hv
  have hx := B.exec
  have hb := B.bytes
  have hr := B.returns
  have hts : ∀ w ∈ zAll, w.before _ s = true := fun w h => atoms_spec (ws := ws_X_count) B.pre w (List.mem_cons_of_mem _ h)
  have hown : s.vm.findClass RX = some m.cls := findClass_of_methodNamed B.named
  have hlocks := B.notSynchronized
  subst hsz
  have hD := hD0.self (sz := s.heap.size)
  generalize hAe : va_A (wX h0 h1 h2 cA cB M S (nI nn) (nI pp)) s.heap.size = A at hD hZ ⊢
  have hA : ∀ q : Nat, s.heap.size ≤ q → A q := fun q h => by rw [← hAe]; exact Or.inr h
  have hS : va_S A s.heap s.heap [] := va_S.rf
  replace hP : va_P (dC, dI) vwCl [(h0, .inr (0, [.ref h1, .ref h2, .int (nI nn), .int (nI pp)])), (h1, .inl (cA, 512, .inl M)), (h2, .inl (cB, 512, .inl S))] s.heap := hP
  replace hD : va_D A [(h0, .inr (0, [.ref h1, .ref h2, .int (nI nn), .int (nI pp)])), (h1, .inl (cA, 512, .inl M)), (h2, .inl (cB, 512, .inl S))] := hD
  have hl := lv_entry ([.ref h0, .int x]) (n := 2) (Nat.le_of_ble_eq_true rfl)
  rw [lg_entry_eq]
  generalize (lg_sl ([.ref h0, .int x]) ++ List.replicate (2 - (lg_sl ([.ref h0, .int x])).length) Slot.unset).toArray = ls at hl ⊢
  replace hl : lv_has ls 2 [(0, .ref h0), (1, .int x)] := hl
  have gi := g0
  obtain ⟨i1, i2, i3, i4, i5, i6⟩ := gi
  have hpp : pp < 16385 := by (rw [i5]; have := zc_le (zm M) nn; omega)
  refine lv_iload_n hx hb d_X_count_0 rfl (lv_at hl 1 rfl) ?_
  rcases z_sw5 x with rfl | rfl | rfl | rfl | rfl | hsw
  · refine lv_tableIn (tgt := 36) (off := 35) hx hb d_X_count_1 (by decide) (by decide) (by decide) (by decide) ?_
    refine lv_aload_n hx hb d_X_count_36 rfl (lv_at hl 0 rfl) ?_
    refine va_get (D := (dC, dI)) (ci := 0) (v := .int (nI nn)) (C := RX) (T := TX) (N := 4) hx hb hts inX hown hK hP 0 rfl rfl 2 (by decide) (hts _ wl_X_27) (fun _ h9 => h9) rfl d_X_count_37 ?_
    refine W.widen (k := 1) (n := 6) (by decide) (by decide) ?_
    refine vx_ret ?_
    exact W.iret (v := nI nn) hx hb hr (fun t9 ht9 hW9 => ⟨⟨nI nn, (), rfl, (Or.inl ⟨rfl, rfl⟩), by rw [ht9]; exact hP, va_K.moved hW9.alike hK, hD⟩, hS.F ht9⟩) hS.2.2 d_X_count_40
  · refine lv_tableIn (tgt := 41) (off := 40) hx hb d_X_count_1 (by decide) (by decide) (by decide) (by decide) ?_
    refine lv_aload_n hx hb d_X_count_41 rfl (lv_at hl 0 rfl) ?_
    refine cc_Vi (wc := [(h0, .inr (0, [.ref h1, .ref h2, .int (nI nn), .int (nI pp)])), (h1, .inl (cA, 512, .inl M)), (h2, .inl (cB, 512, .inl S))]) (wr := []) (tys' := [(cA, .int), (cB, .int)]) ⟨hx, hb, hml, hown, hts⟩ hP hD hK hS hA [0, 1, 2] [] [0, 1] rfl rfl rfl (by decide) (by decide) (by decide) rfl (c_cardCount l dC dI h0 h1 h2 cA cB _ M S nn (nI pp) i2) (cwV 0 hts g_X_64 rfl rfl rfl (by decide +kernel) ⟨Nat.le_of_ble_eq_true rfl, Nat.le_of_ble_eq_true rfl⟩) 0 0 rfl rfl rfl rfl hl.1 rfl (Nat.le_of_ble_eq_true rfl) d_X_count_42 ⟨Nat.le_of_ble_eq_true rfl, Nat.le_of_ble_eq_true rfl⟩ (fun r_9 u H locs hw hP hD hS => ?_)
    replace hP : va_P (dC, dI) vwCl [(h0, .inr (0, [.ref h1, .ref h2, .int (nI nn), .int (nI pp)])), (h1, .inl (cA, 512, .inl M)), (h2, .inl (cB, 512, .inl S))] H := hP
    replace hD : va_D A [(h0, .inr (0, [.ref h1, .ref h2, .int (nI nn), .int (nI pp)])), (h1, .inl (cA, 512, .inl M)), (h2, .inl (cB, 512, .inl S))] := hD
    subst hw
    refine W.widen (k := 1) (n := 6) (by decide) (by decide) ?_
    refine vx_ret ?_
    exact W.iret (v := nI ((nn + 31) / 32)) hx hb hr (fun t9 ht9 hW9 => ⟨⟨nI ((nn + 31) / 32), (), rfl, (Or.inr (Or.inl ⟨rfl, rfl⟩)), by rw [ht9]; exact hP, va_K.moved hW9.alike hK, hD⟩, hS.F ht9⟩) hS.2.2 d_X_count_45
  · refine lv_tableIn (tgt := 46) (off := 45) hx hb d_X_count_1 (by decide) (by decide) (by decide) (by decide) ?_
    refine lv_aload_n hx hb d_X_count_46 rfl (lv_at hl 0 rfl) ?_
    refine va_get (D := (dC, dI)) (ci := 0) (v := .int (nI pp)) (C := RX) (T := TX) (N := 4) hx hb hts inX hown hK hP 0 rfl rfl 3 (by decide) (hts _ wl_X_53) (fun _ h9 => h9) rfl d_X_count_47 ?_
    refine W.widen (k := 1) (n := 6) (by decide) (by decide) ?_
    refine vx_ret ?_
    exact W.iret (v := nI pp) hx hb hr (fun t9 ht9 hW9 => ⟨⟨nI pp, (), rfl, (Or.inr (Or.inr (Or.inl ⟨rfl, rfl⟩))), by rw [ht9]; exact hP, va_K.moved hW9.alike hK, hD⟩, hS.F ht9⟩) hS.2.2 d_X_count_50
  · refine lv_tableIn (tgt := 51) (off := 50) hx hb d_X_count_1 (by decide) (by decide) (by decide) (by decide) ?_
    refine lv_aload_n hx hb d_X_count_51 rfl (lv_at hl 0 rfl) ?_
    refine lv_iconst (v := nI 1) hx hb d_X_count_52 (by decide) ?_
    refine cc_Vi (wc := [(h0, .inr (0, [.ref h1, .ref h2, .int (nI nn), .int (nI pp)])), (h1, .inl (cA, 512, .inl M)), (h2, .inl (cB, 512, .inl S))]) (wr := []) (tys' := [(cA, .int), (cB, .int)]) ⟨hx, hb, hml, hown, hts⟩ hP hD hK hS hA [0, 1, 2] [] [0, 1] rfl rfl rfl (by decide) (by decide) (by decide) rfl (c_outermostSize l dC dI h0 h1 h2 cA cB _ M S nn pp true g0) (cwV 1 hts g_X_68 rfl rfl rfl (by decide +kernel) ⟨Nat.le_of_ble_eq_true rfl, Nat.le_of_ble_eq_true rfl⟩) 0 0 rfl rfl rfl rfl hl.1 rfl (Nat.le_of_ble_eq_true rfl) d_X_count_53 ⟨Nat.le_of_ble_eq_true rfl, Nat.le_of_ble_eq_true rfl⟩ (fun r_9 u H locs hw hP hD hS => ?_)
    replace hP : va_P (dC, dI) vwCl [(h0, .inr (0, [.ref h1, .ref h2, .int (nI nn), .int (nI pp)])), (h1, .inl (cA, 512, .inl M)), (h2, .inl (cB, 512, .inl S))] H := hP
    replace hD : va_D A [(h0, .inr (0, [.ref h1, .ref h2, .int (nI nn), .int (nI pp)])), (h1, .inl (cA, 512, .inl M)), (h2, .inl (cB, 512, .inl S))] := hD
    subst hw
    refine W.widen (k := 1) (n := 6) (by decide) (by decide) ?_
    refine vx_ret ?_
    exact W.iret (v := nI (zF max (zm M) nn (pp - 1) (zn (zm M) nn 1) (zn (zm M) nn 1))) hx hb hr (fun t9 ht9 hW9 => ⟨⟨nI (zF max (zm M) nn (pp - 1) (zn (zm M) nn 1) (zn (zm M) nn 1)), (), rfl, (Or.inr (Or.inr (Or.inr (Or.inl ⟨rfl, rfl⟩)))), by rw [ht9]; exact hP, va_K.moved hW9.alike hK, hD⟩, hS.F ht9⟩) hS.2.2 d_X_count_56
  · refine lv_tableIn (tgt := 57) (off := 56) hx hb d_X_count_1 (by decide) (by decide) (by decide) (by decide) ?_
    refine lv_aload_n hx hb d_X_count_57 rfl (lv_at hl 0 rfl) ?_
    refine lv_iconst (v := nI 0) hx hb d_X_count_58 (by decide) ?_
    refine cc_Vi (wc := [(h0, .inr (0, [.ref h1, .ref h2, .int (nI nn), .int (nI pp)])), (h1, .inl (cA, 512, .inl M)), (h2, .inl (cB, 512, .inl S))]) (wr := []) (tys' := [(cA, .int), (cB, .int)]) ⟨hx, hb, hml, hown, hts⟩ hP hD hK hS hA [0, 1, 2] [] [0, 1] rfl rfl rfl (by decide) (by decide) (by decide) rfl (c_outermostSize l dC dI h0 h1 h2 cA cB _ M S nn pp false g0) (cwV 1 hts g_X_68 rfl rfl rfl (by decide +kernel) ⟨Nat.le_of_ble_eq_true rfl, Nat.le_of_ble_eq_true rfl⟩) 0 0 rfl rfl rfl rfl hl.1 rfl (Nat.le_of_ble_eq_true rfl) d_X_count_59 ⟨Nat.le_of_ble_eq_true rfl, Nat.le_of_ble_eq_true rfl⟩ (fun r_9 u H locs hw hP hD hS => ?_)
    replace hP : va_P (dC, dI) vwCl [(h0, .inr (0, [.ref h1, .ref h2, .int (nI nn), .int (nI pp)])), (h1, .inl (cA, 512, .inl M)), (h2, .inl (cB, 512, .inl S))] H := hP
    replace hD : va_D A [(h0, .inr (0, [.ref h1, .ref h2, .int (nI nn), .int (nI pp)])), (h1, .inl (cA, 512, .inl M)), (h2, .inl (cB, 512, .inl S))] := hD
    subst hw
    refine W.widen (k := 1) (n := 6) (by decide) (by decide) ?_
    refine vx_ret ?_
    exact W.iret (v := nI (zF min (zm M) nn (pp - 1) (zn (zm M) nn 1) (zn (zm M) nn 1))) hx hb hr (fun t9 ht9 hW9 => ⟨⟨nI (zF min (zm M) nn (pp - 1) (zn (zm M) nn 1) (zn (zm M) nn 1)), (), rfl, (Or.inr (Or.inr (Or.inr (Or.inr ⟨rfl, rfl⟩)))), by rw [ht9]; exact hP, va_K.moved hW9.alike hK, hD⟩, hS.F ht9⟩) hS.2.2 d_X_count_62
  · refine lv_tableOut (tgt := 63) hx hb d_X_count_1 hsw (by decide) ?_
    obtain ⟨sa, hsa⟩ := hZ.1 (RX, 72, "there is no such count") (by decide +kernel)
    exact vx_throwS hx hb hlt (own := RX) (cls := "java/lang/IllegalArgumentException") (names := ["java/lang/RuntimeException", "java/lang/Exception"]) hown (by decide +kernel) (by decide +kernel) (hts _ wl_X_20) (hts _ win_IllegalArgumentException) hsa (vx_hat (L := vx_atS RX 24 "java/lang/IllegalArgumentException" ["java/lang/RuntimeException", "java/lang/Exception"]) (fun w hw => hts w (wx_IllegalArgumentException w hw)) wb_IllegalArgumentException (fun w hw => va_Nw.use (zBad_on w hw) (hZ.2.1 w hw))) wg_IllegalArgumentException hZ.2.2.1 hZ.2.2.2 hS (hl.1.trans hml.symm) d_X_count_63 d_X_count_66 d_X_count_67 d_X_count_69 d_X_count_72 (fun x9 h9 => (htab x9 h9).elim) (by decide) (by decide) (by decide) (by decide) hlocks (fun t9 hal hz9 hk9 => ⟨(), z_sw5n hsw, ⟨rfl, va_P.kept hP (fun k9 q9 h9 => hk9 q9.1 (vx_lt hP h9)), va_K.moved hal hK, hD⟩, ⟨Nat.le_trans hS.1 hz9, fun q9 a1 a2 => (hk9 q9 (Nat.lt_of_lt_of_le a1 hS.1)).trans (hS.2.1 q9 a1 a2)⟩⟩) hS.2.2 (by decide) (by decide)
set_option maxHeartbeats 4000000 in
set_option maxRecDepth 100000 in
/-- StartTable(): 1024 cells, one piece -/
theorem c_init (l : Launch) (dC : Nat → ClassId) (dI : Nat → Nat → Nat) (h0 : Nat) (sz : Nat) : Met l y_X_init ws_X_init ({ frames := 2, cells := 2, slots := 1024, locals := 44 }) (va_Pc [.ref h0] (cc_P (dC, dI) vwCl ([(h0, .inr (0, [.null, .null, .int 0, .int 0]))] : va_W) [] sz)) (va_Qv (S := Nat × Nat × ClassId × ClassId × (Nat → Int32) × (Nat → Int32)) (fun u => zCI 1024 1 u.2.2.2.2.1 u.2.2.2.2.2 ∧ ∀ j, j < 16384 → zm u.2.2.2.2.1 j = decide (j = 0)) (fun u t => cc_B (dC, dI) vwCl (tX u.2.2.1 u.2.2.2.1) (va_A ([(h0, .inr (0, [.null, .null, .int 0, .int 0]))] : va_W) sz) (wX h0 u.1 u.2.1 u.2.2.1 u.2.2.2.1 u.2.2.2.2.1 u.2.2.2.2.2 (nI 1024) (nI 1)) t) (va_A ([(h0, .inr (0, [.null, .null, .int 0, .int 0]))] : va_W) sz)) 2 1024 (va_A ([(h0, .inr (0, [.null, .null, .int 0, .int 0]))] : va_W) sz) := by
  refine Met.ofW (cc := c_X_init) (maxL := 1) (ret := none) (by decide) rfl ?_
  intro p e s m args below meth c s₁ B hml hv
  obtain ⟨rfl, hsz, hP, hK, hD0⟩ := hv
  have hx := B.exec
  have hb := B.bytes
  have hr := B.returns
  have hts : ∀ w ∈ zAll, w.before _ s = true := fun w h => atoms_spec (ws := ws_X_init) B.pre w (List.mem_cons_of_mem _ h)
  have hown : s.vm.findClass RX = some m.cls := findClass_of_methodNamed B.named
  have hlocks := B.notSynchronized
  have hin : meth.name = "<init>" := (name_of_methodNamed B.named B.method).1
  subst hsz
  have hD := hD0.self (sz := s.heap.size)
  generalize hAe : va_A ([(h0, .inr (0, [.null, .null, .int 0, .int 0]))] : va_W) s.heap.size = A at hD ⊢
  have hA : ∀ q : Nat, s.heap.size ≤ q → A q := fun q h => by rw [← hAe]; exact Or.inr h
  have hS : va_S A s.heap s.heap [] := va_S.rf
  replace hP : va_P (dC, dI) vwCl [(h0, .inr (0, [.null, .null, .int 0, .int 0]))] s.heap := hP
  replace hD : va_D A [(h0, .inr (0, [.null, .null, .int 0, .int 0]))] := hD
  have hl := lv_entry ([.ref h0]) (n := 1) (Nat.le_of_ble_eq_true rfl)
  rw [lg_entry_eq]
  generalize (lg_sl ([.ref h0]) ++ List.replicate (1 - (lg_sl ([.ref h0])).length) Slot.unset).toArray = ls at hl ⊢
  replace hl : lv_has ls 1 [(0, .ref h0)] := hl
  refine lv_aload_n hx hb d_X_init_0 rfl (lv_at hl 0 rfl) ?_
  refine W.objInit hx hb hown (hts _ wl_X_3) (hts _ wim_obj) (hts _ wc_obj) rfl (by rw [hml]; exact hl.1) rfl d_X_init_1 (Nat.le_of_ble_eq_true rfl) (Nat.le_of_ble_eq_true rfl) ?_
  refine W.eq (g2 := F0 m 4 ls []) rfl ?_
  refine lv_aload_n hx hb d_X_init_4 rfl (lv_at hl 0 rfl) ?_
  refine lv_sipush (v := nI 512) hx hb d_X_init_5 (by decide) ?_
  refine va_newa (atype := .int) (N' := 512) (a0 := (512, .inl (fun _ => 0))) (ty := .int) (n := nI 512) hx hb (hts _ wac_int) rfl hK hP hD hS hA (fun _ => rfl) (by decide) (by decide) (by decide) (by decide) (by decide) d_X_init_8 (fun h1 cA H hK hP hD hS => ?_)
  replace hK : va_K (dC, dI) vwCl [(cA, .int)] s := hK
  replace hP : va_P (dC, dI) vwCl [(h0, .inr (0, [.null, .null, .int 0, .int 0])), (h1, .inl (cA, 512, .inl (fun _ => 0)))] H := hP
  replace hD : va_D A [(h0, .inr (0, [.null, .null, .int 0, .int 0])), (h1, .inl (cA, 512, .inl (fun _ => 0)))] := hD
  refine W.widen (k := 1) (n := 512) (by decide) (by decide) ?_
  refine va_putF (D := (dC, dI)) (ci := 0) (v := .ref h1) (ty := .array .int) (C := RX) (T := TX) (N := 4) hx hb hts inX tyX tyX_ok nmX hown hK hP hD hS 0 rfl rfl 0 (by decide) (hts _ wl_X_9) (fun _ h9 => h9) rfl hin rfl (by decide +kernel) rfl rfl (Nat.le_of_ble_eq_true rfl) d_X_init_10 (fun H locs hP hD hS => ?_)
  replace hP : va_P (dC, dI) vwCl [(h0, .inr (0, [.ref h1, .null, .int 0, .int 0])), (h1, .inl (cA, 512, .inl (fun _ => 0)))] H := hP
  replace hD : va_D A [(h0, .inr (0, [.ref h1, .null, .int 0, .int 0])), (h1, .inl (cA, 512, .inl (fun _ => 0)))] := hD
  refine lv_aload_n hx hb d_X_init_13 rfl (lv_at hl 0 rfl) ?_
  refine lv_sipush (v := nI 512) hx hb d_X_init_14 (by decide) ?_
  refine va_newa (atype := .int) (N' := 512) (a0 := (512, .inl (fun _ => 0))) (ty := .int) (n := nI 512) hx hb (hts _ wac_int) rfl hK hP hD hS hA (fun _ => rfl) (by decide) (by decide) (by decide) (by decide) (by decide) d_X_init_17 (fun h2 cB H hK hP hD hS => ?_)
  replace hK : va_K (dC, dI) vwCl [(cA, .int), (cB, .int)] s := hK
  replace hP : va_P (dC, dI) vwCl [(h0, .inr (0, [.ref h1, .null, .int 0, .int 0])), (h1, .inl (cA, 512, .inl (fun _ => 0))), (h2, .inl (cB, 512, .inl (fun _ => 0)))] H := hP
  replace hD : va_D A [(h0, .inr (0, [.ref h1, .null, .int 0, .int 0])), (h1, .inl (cA, 512, .inl (fun _ => 0))), (h2, .inl (cB, 512, .inl (fun _ => 0)))] := hD
  refine W.widen (k := 2) (n := 1024) (by decide) (by decide) ?_
  refine va_putF (D := (dC, dI)) (ci := 0) (v := .ref h2) (ty := .array .int) (C := RX) (T := TX) (N := 4) hx hb hts inX tyX tyX_ok nmX hown hK hP hD hS 0 rfl rfl 1 (by decide) (hts _ wl_X_13) (fun _ h9 => h9) rfl hin rfl (by decide +kernel) rfl rfl (Nat.le_of_ble_eq_true rfl) d_X_init_19 (fun H locs hP hD hS => ?_)
  replace hP : va_P (dC, dI) vwCl [(h0, .inr (0, [.ref h1, .ref h2, .int 0, .int 0])), (h1, .inl (cA, 512, .inl (fun _ => 0))), (h2, .inl (cB, 512, .inl (fun _ => 0)))] H := hP
  replace hD : va_D A [(h0, .inr (0, [.ref h1, .ref h2, .int 0, .int 0])), (h1, .inl (cA, 512, .inl (fun _ => 0))), (h2, .inl (cB, 512, .inl (fun _ => 0)))] := hD
  refine lv_aload_n hx hb d_X_init_22 rfl (lv_at hl 0 rfl) ?_
  refine lv_sipush (v := nI 1024) hx hb d_X_init_23 (by decide) ?_
  refine cc_Vv (wc := [(h0, .inr (0, [.ref h1, .ref h2, .int 0, .int 0])), (h1, .inl (cA, 512, .inl (fun _ => 0))), (h2, .inl (cB, 512, .inl (fun _ => 0)))]) (wr := []) (tys' := [(cA, .int), (cB, .int)]) ⟨hx, hb, hml, hown, hts⟩ hP hD hK hS hA [0, 1, 2] [] [0, 1] rfl rfl rfl (by decide) (by decide) (by decide) rfl (c_layOnePiece l dC dI h0 h1 h2 cA cB _ (fun _ => 0) (fun _ => 0) 0 0 1024 (by decide) (by decide)) (cwV 1 hts g_X_16 rfl rfl rfl (by decide +kernel) ⟨Nat.le_of_ble_eq_true rfl, Nat.le_of_ble_eq_true rfl⟩) 0 0 rfl rfl rfl rfl hl.1 rfl (Nat.le_of_ble_eq_true rfl) d_X_init_26 ⟨Nat.le_of_ble_eq_true rfl, Nat.le_of_ble_eq_true rfl⟩ (fun u H locs hw hP hD hS => ?_)
  replace hP : va_P (dC, dI) vwCl [(h0, .inr (0, [.ref h1, .ref h2, .int (nI 1024), .int (nI 1)])), (h1, .inl (cA, 512, .inl u.1)), (h2, .inl (cB, 512, .inl u.2))] H := hP
  replace hD : va_D A [(h0, .inr (0, [.ref h1, .ref h2, .int (nI 1024), .int (nI 1)])), (h1, .inl (cA, 512, .inl u.1)), (h2, .inl (cB, 512, .inl u.2))] := hD
  refine W.widen (k := 2) (n := 1024) (by decide) (by decide) ?_
  exact W.vret hx hb hr (fun t9 ht9 hW9 => ⟨⟨(h1, h2, cA, cB, u.1, u.2), rfl, hw, by rw [ht9]; exact hP, va_K.moved hW9.alike hK, hD⟩, hS.F ht9⟩) hS.2.2 d_X_init_29
