set_option maxHeartbeats 4000000 in
set_option maxRecDepth 100000 in
/-- the law's own begin -/
theorem cL_begin (l : Launch) (hlt : l.stackTraces = false) (dC : Nat → ClassId) (dI : Nat → Nat → Nat) (h0 h1 h2 o0 : Nat) (cA cB cO : ClassId) (sz : Nat) (M S : Nat → Int32) (nn pp : Nat) (fo : Nat → Int64) (g0 : zCI nn pp M S) (x : Int32) : Met l y_L_begin ws_L_begin ({ frames := 8, cells := 1, slots := 6, locals := 132 }) (va_Pc [.ref h0, .int x, .ref o0] (cx_P (dC, dI) vwCl (wXO h0 h1 h2 o0 cA cB cO M S (nI nn) (nI pp) fo) (tXO cA cB cO) sz)) (va_Qi (S := (Nat × Nat × (Nat → Int32) × (Nat → Int32)) × (Nat → Int64)) (fun (r : Int32) (u : (Nat × Nat × (Nat → Int32) × (Nat → Int32)) × (Nat → Int64)) => (r = nI 0 ∧ ∃ rr : Int32, u.2 = vp_updL fo 0 rr.toInt64 ∧ u.1 = (nn, pp, M, S) ∧ ∃ k, k < nn ∧ x = nI k ∧ rr = nI (zb (zm M) k)) ∨ (r = nI 1 ∧ (¬ ∃ k, k < nn ∧ x = nI k) ∧ u = ((nn, pp, M, S), fo))) (fun u t => cc_B (dC, dI) vwCl (tXO cA cB cO) (va_A (wXO h0 h1 h2 o0 cA cB cO M S (nI nn) (nI pp) fo) sz) ((fun u : (Nat × Nat × (Nat → Int32) × (Nat → Int32)) × (Nat → Int64) => (wXO h0 h1 h2 o0 cA cB cO u.1.2.2.1 u.1.2.2.2 (nI u.1.1) (nI u.1.2.1) u.2)) u) t) (va_A (wXO h0 h1 h2 o0 cA cB cO M S (nI nn) (nI pp) fo) sz)) 1 6 (va_A (wXO h0 h1 h2 o0 cA cB cO M S (nI nn) (nI pp) fo) sz) := by
  refine va_MetW (cc := c_L_begin) (maxL := 4) (ret := (some .int)) (hh := [(0, 9, 12, 18)]) (by decide) rfl ?_
  intro p e s m args below meth c s₁ B hml hv
  obtain ⟨rfl, ⟨hsz, hP, hK, hD0⟩, hZ⟩ := hv
  have hx := B.exec
  have hb := B.bytes
  have hr := B.returns
  have hts : ∀ w ∈ zAll, w.before _ s = true := fun w h => atoms_spec (ws := ws_L_begin) B.pre w (List.mem_cons_of_mem _ h)
  have htab : c.exceptionTable.toList = tableOf [(0, 9, 12, 18)] := vx_table (x := y_L_begin) B (atoms_spec (ws := ws_L_begin) B.pre _ List.mem_cons_self)
  have hown : s.vm.findClass RL = some m.cls := findClass_of_methodNamed B.named
  have hlocks := B.notSynchronized
  subst hsz
  have hD := hD0.self (sz := s.heap.size)
  generalize hAe : va_A (wXO h0 h1 h2 o0 cA cB cO M S (nI nn) (nI pp) fo) s.heap.size = A at hD hZ ⊢
  have hA : ∀ q : Nat, s.heap.size ≤ q → A q := fun q h => by rw [← hAe]; exact Or.inr h
  have hS : va_S A s.heap s.heap [] := va_S.rf
  replace hP : va_P (dC, dI) vwCl [(h0, .inr (0, [.ref h1, .ref h2, .int (nI nn), .int (nI pp)])), (h1, .inl (cA, 512, .inl M)), (h2, .inl (cB, 512, .inl S)), (o0, .inl (cO, 1, .inr (.inl fo)))] s.heap := hP
  replace hD : va_D A [(h0, .inr (0, [.ref h1, .ref h2, .int (nI nn), .int (nI pp)])), (h1, .inl (cA, 512, .inl M)), (h2, .inl (cB, 512, .inl S)), (o0, .inl (cO, 1, .inr (.inl fo)))] := hD
  have hl := lv_entry ([.ref h0, .int x, .ref o0]) (n := 4) (Nat.le_of_ble_eq_true rfl)
  rw [lg_entry_eq]
  generalize (lg_sl ([.ref h0, .int x, .ref o0]) ++ List.replicate (4 - (lg_sl ([.ref h0, .int x, .ref o0])).length) Slot.unset).toArray = ls at hl ⊢
  replace hl : lv_has ls 4 [(0, .ref h0), (1, .int x), (2, .ref o0)] := hl
  refine lv_aload_n hx hb d_L_begin_0 rfl (lv_at hl 2 rfl) ?_
  refine lv_iconst (v := nI 0) hx hb d_L_begin_1 (by decide) ?_
  refine lv_aload_n hx hb d_L_begin_2 rfl (lv_at hl 0 rfl) ?_
  refine lv_iload_n hx hb d_L_begin_3 rfl (lv_at hl 1 rfl) ?_
  refine cx_Vi (wc := [(h0, .inr (0, [.ref h1, .ref h2, .int (nI nn), .int (nI pp)])), (h1, .inl (cA, 512, .inl M)), (h2, .inl (cB, 512, .inl S))]) (wr := [(o0, .inl (cO, 1, .inr (.inl fo)))]) (tys' := [(cA, .int), (cB, .int)]) ⟨hx, hb, hml, hown, hts⟩ hP hD hK hS hA hZ [0, 1, 2] [3] [0, 1] rfl rfl rfl (by decide) (by decide) (by decide) rfl (c_begin l hlt dC dI h0 h1 h2 cA cB _ M S nn pp g0 x) (cwV 1 hts g_L_27 rfl rfl rfl (by decide +kernel) ⟨Nat.le_of_ble_eq_true rfl, Nat.le_of_ble_eq_true rfl⟩) 0 0 rfl rfl rfl rfl hl.1 rfl (Nat.le_of_ble_eq_true rfl) d_L_begin_4 ⟨Nat.le_of_ble_eq_true rfl, Nat.le_of_ble_eq_true rfl⟩ (fun ce q9 H locs hbad hP hD hS y1 y2 y3 => ?_) (fun r_9 u H locs hw hP hD hS => ?_)
  · replace hP : va_P (dC, dI) vwCl [(o0, .inl (cO, 1, .inr (.inl fo))), (h0, .inr (0, [.ref h1, .ref h2, .int (nI nn), .int (nI pp)])), (h1, .inl (cA, 512, .inl M)), (h2, .inl (cB, 512, .inl S))] H := hP
    replace hD : va_D A [(o0, .inl (cO, 1, .inr (.inl fo))), (h0, .inr (0, [.ref h1, .ref h2, .int (nI nn), .int (nI pp)])), (h1, .inl (cA, 512, .inl M)), (h2, .inl (cB, 512, .inl S))] := hD
    refine vx_catch (pc := 4) hown [] ⟨0, 9, 12, 18⟩ [] htab (fun z h => absurd h List.not_mem_nil) (by decide) (by decide) (hts _ wl_L_18) (va_Nw.use (zBad_on _ wzb_IOOBE) (hZ.2.1 _ wzb_IOOBE)) y1 y2 y3 ?_
    refine W.eq (g2 := F0 m 12 ls [.ref q9]) rfl ?_
    refine lv_astore_n (lv' := [(3, .ref q9), (0, .ref h0), (1, .int x), (2, .ref o0)]) hx hb d_L_begin_12 rfl hl (by decide) rfl (fun ls hl => ?_)
    refine lv_iconst (v := nI 1) hx hb d_L_begin_13 (by decide) ?_
    replace hP := hP.sub (ws' := [(h0, .inr (0, [.ref h1, .ref h2, .int (nI nn), .int (nI pp)])), (h1, .inl (cA, 512, .inl M)), (h2, .inl (cB, 512, .inl S)), (o0, .inl (cO, 1, .inr (.inl fo)))]) [1, 2, 3, 0] rfl
    replace hD := hD.sub (ws' := [(h0, .inr (0, [.ref h1, .ref h2, .int (nI nn), .int (nI pp)])), (h1, .inl (cA, 512, .inl M)), (h2, .inl (cB, 512, .inl S)), (o0, .inl (cO, 1, .inr (.inl fo)))]) [1, 2, 3, 0] (by decide) rfl
    refine W.widen (k := 1) (n := 6) (by decide) (by decide) ?_
    exact W.iret (v := nI 1) hx hb hr (fun t9 ht9 hW9 => ⟨⟨nI 1, ((nn, pp, M, S), fo), rfl, Or.inr ⟨rfl, hbad, rfl⟩, by rw [ht9]; exact hP, va_K.moved hW9.alike hK, hD⟩, hS.F ht9⟩) hS.2.2 d_L_begin_14
  · replace hP : va_P (dC, dI) vwCl [(o0, .inl (cO, 1, .inr (.inl fo))), (h0, .inr (0, [.ref h1, .ref h2, .int (nI nn), .int (nI pp)])), (h1, .inl (cA, 512, .inl M)), (h2, .inl (cB, 512, .inl S))] H := hP
    replace hD : va_D A [(o0, .inl (cO, 1, .inr (.inl fo))), (h0, .inr (0, [.ref h1, .ref h2, .int (nI nn), .int (nI pp)])), (h1, .inl (cA, 512, .inl M)), (h2, .inl (cB, 512, .inl S))] := hD
    refine lv_i2l (v := r_9.toInt64) hx hb d_L_begin_7 rfl ?_
    refine va_last hx hb hK hP hD hS 0 2 rfl rfl (vp_in_nI (by omega) (by decide)) d_L_begin_8 (fun H locs hP hD hS => ?_)
    rw [nI_clamp (by omega)] at hP hD
    replace hP : va_P (dC, dI) vwCl [(o0, .inl (cO, 1, .inr (.inl (vp_updL fo 0 r_9.toInt64)))), (h0, .inr (0, [.ref h1, .ref h2, .int (nI nn), .int (nI pp)])), (h1, .inl (cA, 512, .inl M)), (h2, .inl (cB, 512, .inl S))] H := hP
    replace hD : va_D A [(o0, .inl (cO, 1, .inr (.inl (vp_updL fo 0 r_9.toInt64)))), (h0, .inr (0, [.ref h1, .ref h2, .int (nI nn), .int (nI pp)])), (h1, .inl (cA, 512, .inl M)), (h2, .inl (cB, 512, .inl S))] := hD
    refine lv_goto (tgt := 15) hx hb d_L_begin_9 (by decide) ?_
    refine lv_iconst (v := nI 0) hx hb d_L_begin_15 (by decide) ?_
    replace hP := hP.sub (ws' := [(h0, .inr (0, [.ref h1, .ref h2, .int (nI nn), .int (nI pp)])), (h1, .inl (cA, 512, .inl M)), (h2, .inl (cB, 512, .inl S)), (o0, .inl (cO, 1, .inr (.inl (vp_updL fo 0 r_9.toInt64))))]) [1, 2, 3, 0] rfl
    replace hD := hD.sub (ws' := [(h0, .inr (0, [.ref h1, .ref h2, .int (nI nn), .int (nI pp)])), (h1, .inl (cA, 512, .inl M)), (h2, .inl (cB, 512, .inl S)), (o0, .inl (cO, 1, .inr (.inl (vp_updL fo 0 r_9.toInt64))))]) [1, 2, 3, 0] (by decide) rfl
    refine W.widen (k := 1) (n := 6) (by decide) (by decide) ?_
    exact W.iret (v := nI 0) hx hb hr (fun t9 ht9 hW9 => ⟨⟨nI 0, ((nn, pp, M, S), vp_updL fo 0 r_9.toInt64), rfl, Or.inl ⟨rfl, r_9, rfl, rfl, hw⟩, by rw [ht9]; exact hP, va_K.moved hW9.alike hK, hD⟩, hS.F ht9⟩) hS.2.2 d_L_begin_16
set_option maxHeartbeats 4000000 in
set_option maxRecDepth 100000 in
/-- the law's own size -/
theorem cL_size (l : Launch) (hlt : l.stackTraces = false) (dC : Nat → ClassId) (dI : Nat → Nat → Nat) (h0 h1 h2 o0 : Nat) (cA cB cO : ClassId) (sz : Nat) (M S : Nat → Int32) (nn pp : Nat) (fo : Nat → Int64) (g0 : zCI nn pp M S) (x : Int32) : Met l y_L_size ws_L_size ({ frames := 8, cells := 1, slots := 6, locals := 132 }) (va_Pc [.ref h0, .int x, .ref o0] (cx_P (dC, dI) vwCl (wXO h0 h1 h2 o0 cA cB cO M S (nI nn) (nI pp) fo) (tXO cA cB cO) sz)) (va_Qi (S := (Nat × Nat × (Nat → Int32) × (Nat → Int32)) × (Nat → Int64)) (fun (r : Int32) (u : (Nat × Nat × (Nat → Int32) × (Nat → Int32)) × (Nat → Int64)) => (r = nI 0 ∧ ∃ rr : Int32, u.2 = vp_updL fo 0 rr.toInt64 ∧ u.1 = (nn, pp, M, S) ∧ ∃ k, k < nn ∧ x = nI k ∧ rr = nI (zn (zm M) nn (k + 1) - zb (zm M) k)) ∨ (r = nI 1 ∧ (¬ ∃ k, k < nn ∧ x = nI k) ∧ u = ((nn, pp, M, S), fo))) (fun u t => cc_B (dC, dI) vwCl (tXO cA cB cO) (va_A (wXO h0 h1 h2 o0 cA cB cO M S (nI nn) (nI pp) fo) sz) ((fun u : (Nat × Nat × (Nat → Int32) × (Nat → Int32)) × (Nat → Int64) => (wXO h0 h1 h2 o0 cA cB cO u.1.2.2.1 u.1.2.2.2 (nI u.1.1) (nI u.1.2.1) u.2)) u) t) (va_A (wXO h0 h1 h2 o0 cA cB cO M S (nI nn) (nI pp) fo) sz)) 1 6 (va_A (wXO h0 h1 h2 o0 cA cB cO M S (nI nn) (nI pp) fo) sz) := by
  refine va_MetW (cc := c_L_size) (maxL := 4) (ret := (some .int)) (hh := [(0, 9, 12, 18)]) (by decide) rfl ?_
  intro p e s m args below meth c s₁ B hml hv
  obtain ⟨rfl, ⟨hsz, hP, hK, hD0⟩, hZ⟩ := hv
  have hx := B.exec
  have hb := B.bytes
  have hr := B.returns
  have hts : ∀ w ∈ zAll, w.before _ s = true := fun w h => atoms_spec (ws := ws_L_size) B.pre w (List.mem_cons_of_mem _ h)
  have htab : c.exceptionTable.toList = tableOf [(0, 9, 12, 18)] := vx_table (x := y_L_size) B (atoms_spec (ws := ws_L_size) B.pre _ List.mem_cons_self)
  have hown : s.vm.findClass RL = some m.cls := findClass_of_methodNamed B.named
  have hlocks := B.notSynchronized
  subst hsz
  have hD := hD0.self (sz := s.heap.size)
  generalize hAe : va_A (wXO h0 h1 h2 o0 cA cB cO M S (nI nn) (nI pp) fo) s.heap.size = A at hD hZ ⊢
  have hA : ∀ q : Nat, s.heap.size ≤ q → A q := fun q h => by rw [← hAe]; exact Or.inr h
  have hS : va_S A s.heap s.heap [] := va_S.rf
  replace hP : va_P (dC, dI) vwCl [(h0, .inr (0, [.ref h1, .ref h2, .int (nI nn), .int (nI pp)])), (h1, .inl (cA, 512, .inl M)), (h2, .inl (cB, 512, .inl S)), (o0, .inl (cO, 1, .inr (.inl fo)))] s.heap := hP
  replace hD : va_D A [(h0, .inr (0, [.ref h1, .ref h2, .int (nI nn), .int (nI pp)])), (h1, .inl (cA, 512, .inl M)), (h2, .inl (cB, 512, .inl S)), (o0, .inl (cO, 1, .inr (.inl fo)))] := hD
  have hl := lv_entry ([.ref h0, .int x, .ref o0]) (n := 4) (Nat.le_of_ble_eq_true rfl)
  rw [lg_entry_eq]
  generalize (lg_sl ([.ref h0, .int x, .ref o0]) ++ List.replicate (4 - (lg_sl ([.ref h0, .int x, .ref o0])).length) Slot.unset).toArray = ls at hl ⊢
  replace hl : lv_has ls 4 [(0, .ref h0), (1, .int x), (2, .ref o0)] := hl
  refine lv_aload_n hx hb d_L_size_0 rfl (lv_at hl 2 rfl) ?_
  refine lv_iconst (v := nI 0) hx hb d_L_size_1 (by decide) ?_
  refine lv_aload_n hx hb d_L_size_2 rfl (lv_at hl 0 rfl) ?_
  refine lv_iload_n hx hb d_L_size_3 rfl (lv_at hl 1 rfl) ?_
  refine cx_Vi (wc := [(h0, .inr (0, [.ref h1, .ref h2, .int (nI nn), .int (nI pp)])), (h1, .inl (cA, 512, .inl M)), (h2, .inl (cB, 512, .inl S))]) (wr := [(o0, .inl (cO, 1, .inr (.inl fo)))]) (tys' := [(cA, .int), (cB, .int)]) ⟨hx, hb, hml, hown, hts⟩ hP hD hK hS hA hZ [0, 1, 2] [3] [0, 1] rfl rfl rfl (by decide) (by decide) (by decide) rfl (c_size l hlt dC dI h0 h1 h2 cA cB _ M S nn pp g0 x) (cwV 1 hts g_L_30 rfl rfl rfl (by decide +kernel) ⟨Nat.le_of_ble_eq_true rfl, Nat.le_of_ble_eq_true rfl⟩) 0 0 rfl rfl rfl rfl hl.1 rfl (Nat.le_of_ble_eq_true rfl) d_L_size_4 ⟨Nat.le_of_ble_eq_true rfl, Nat.le_of_ble_eq_true rfl⟩ (fun ce q9 H locs hbad hP hD hS y1 y2 y3 => ?_) (fun r_9 u H locs hw hP hD hS => ?_)
  · replace hP : va_P (dC, dI) vwCl [(o0, .inl (cO, 1, .inr (.inl fo))), (h0, .inr (0, [.ref h1, .ref h2, .int (nI nn), .int (nI pp)])), (h1, .inl (cA, 512, .inl M)), (h2, .inl (cB, 512, .inl S))] H := hP
    replace hD : va_D A [(o0, .inl (cO, 1, .inr (.inl fo))), (h0, .inr (0, [.ref h1, .ref h2, .int (nI nn), .int (nI pp)])), (h1, .inl (cA, 512, .inl M)), (h2, .inl (cB, 512, .inl S))] := hD
    refine vx_catch (pc := 4) hown [] ⟨0, 9, 12, 18⟩ [] htab (fun z h => absurd h List.not_mem_nil) (by decide) (by decide) (hts _ wl_L_18) (va_Nw.use (zBad_on _ wzb_IOOBE) (hZ.2.1 _ wzb_IOOBE)) y1 y2 y3 ?_
    refine W.eq (g2 := F0 m 12 ls [.ref q9]) rfl ?_
    refine lv_astore_n (lv' := [(3, .ref q9), (0, .ref h0), (1, .int x), (2, .ref o0)]) hx hb d_L_size_12 rfl hl (by decide) rfl (fun ls hl => ?_)
    refine lv_iconst (v := nI 1) hx hb d_L_size_13 (by decide) ?_
    replace hP := hP.sub (ws' := [(h0, .inr (0, [.ref h1, .ref h2, .int (nI nn), .int (nI pp)])), (h1, .inl (cA, 512, .inl M)), (h2, .inl (cB, 512, .inl S)), (o0, .inl (cO, 1, .inr (.inl fo)))]) [1, 2, 3, 0] rfl
    replace hD := hD.sub (ws' := [(h0, .inr (0, [.ref h1, .ref h2, .int (nI nn), .int (nI pp)])), (h1, .inl (cA, 512, .inl M)), (h2, .inl (cB, 512, .inl S)), (o0, .inl (cO, 1, .inr (.inl fo)))]) [1, 2, 3, 0] (by decide) rfl
    refine W.widen (k := 1) (n := 6) (by decide) (by decide) ?_
    exact W.iret (v := nI 1) hx hb hr (fun t9 ht9 hW9 => ⟨⟨nI 1, ((nn, pp, M, S), fo), rfl, Or.inr ⟨rfl, hbad, rfl⟩, by rw [ht9]; exact hP, va_K.moved hW9.alike hK, hD⟩, hS.F ht9⟩) hS.2.2 d_L_size_14
  · replace hP : va_P (dC, dI) vwCl [(o0, .inl (cO, 1, .inr (.inl fo))), (h0, .inr (0, [.ref h1, .ref h2, .int (nI nn), .int (nI pp)])), (h1, .inl (cA, 512, .inl M)), (h2, .inl (cB, 512, .inl S))] H := hP
    replace hD : va_D A [(o0, .inl (cO, 1, .inr (.inl fo))), (h0, .inr (0, [.ref h1, .ref h2, .int (nI nn), .int (nI pp)])), (h1, .inl (cA, 512, .inl M)), (h2, .inl (cB, 512, .inl S))] := hD
    refine lv_i2l (v := r_9.toInt64) hx hb d_L_size_7 rfl ?_
    refine va_last hx hb hK hP hD hS 0 2 rfl rfl (vp_in_nI (by omega) (by decide)) d_L_size_8 (fun H locs hP hD hS => ?_)
    rw [nI_clamp (by omega)] at hP hD
    replace hP : va_P (dC, dI) vwCl [(o0, .inl (cO, 1, .inr (.inl (vp_updL fo 0 r_9.toInt64)))), (h0, .inr (0, [.ref h1, .ref h2, .int (nI nn), .int (nI pp)])), (h1, .inl (cA, 512, .inl M)), (h2, .inl (cB, 512, .inl S))] H := hP
    replace hD : va_D A [(o0, .inl (cO, 1, .inr (.inl (vp_updL fo 0 r_9.toInt64)))), (h0, .inr (0, [.ref h1, .ref h2, .int (nI nn), .int (nI pp)])), (h1, .inl (cA, 512, .inl M)), (h2, .inl (cB, 512, .inl S))] := hD
    refine lv_goto (tgt := 15) hx hb d_L_size_9 (by decide) ?_
    refine lv_iconst (v := nI 0) hx hb d_L_size_15 (by decide) ?_
    replace hP := hP.sub (ws' := [(h0, .inr (0, [.ref h1, .ref h2, .int (nI nn), .int (nI pp)])), (h1, .inl (cA, 512, .inl M)), (h2, .inl (cB, 512, .inl S)), (o0, .inl (cO, 1, .inr (.inl (vp_updL fo 0 r_9.toInt64))))]) [1, 2, 3, 0] rfl
    replace hD := hD.sub (ws' := [(h0, .inr (0, [.ref h1, .ref h2, .int (nI nn), .int (nI pp)])), (h1, .inl (cA, 512, .inl M)), (h2, .inl (cB, 512, .inl S)), (o0, .inl (cO, 1, .inr (.inl (vp_updL fo 0 r_9.toInt64))))]) [1, 2, 3, 0] (by decide) rfl
    refine W.widen (k := 1) (n := 6) (by decide) (by decide) ?_
    exact W.iret (v := nI 0) hx hb hr (fun t9 ht9 hW9 => ⟨⟨nI 0, ((nn, pp, M, S), vp_updL fo 0 r_9.toInt64), rfl, Or.inl ⟨rfl, r_9, rfl, rfl, hw⟩, by rw [ht9]; exact hP, va_K.moved hW9.alike hK, hD⟩, hS.F ht9⟩) hS.2.2 d_L_size_16
set_option maxHeartbeats 4000000 in
set_option maxRecDepth 100000 in
/-- the law's own start -/
theorem cL_start (l : Launch) (hlt : l.stackTraces = false) (dC : Nat → ClassId) (dI : Nat → Nat → Nat) (h0 h1 h2 o0 : Nat) (cA cB cO : ClassId) (sz : Nat) (M S : Nat → Int32) (nn pp : Nat) (fo : Nat → Int64) (g0 : zCI nn pp M S) (x : Int32) : Met l y_L_start ws_L_start ({ frames := 8, cells := 1, slots := 6, locals := 132 }) (va_Pc [.ref h0, .int x, .ref o0] (cx_P (dC, dI) vwCl (wXO h0 h1 h2 o0 cA cB cO M S (nI nn) (nI pp) fo) (tXO cA cB cO) sz)) (va_Qi (S := (Nat × Nat × (Nat → Int32) × (Nat → Int32)) × (Nat → Int64)) (fun (r : Int32) (u : (Nat × Nat × (Nat → Int32) × (Nat → Int32)) × (Nat → Int64)) => (r = nI 0 ∧ ∃ rr : Int32, u.2 = vp_updL fo 0 rr.toInt64 ∧ u.1 = (nn, pp, M, S) ∧ ∃ k, k < (nn + 31) / 32 ∧ x = nI k ∧ rr = nI (zb (zm M) (32 * k))) ∨ (r = nI 1 ∧ (¬ ∃ k, k < (nn + 31) / 32 ∧ x = nI k) ∧ u = ((nn, pp, M, S), fo))) (fun u t => cc_B (dC, dI) vwCl (tXO cA cB cO) (va_A (wXO h0 h1 h2 o0 cA cB cO M S (nI nn) (nI pp) fo) sz) ((fun u : (Nat × Nat × (Nat → Int32) × (Nat → Int32)) × (Nat → Int64) => (wXO h0 h1 h2 o0 cA cB cO u.1.2.2.1 u.1.2.2.2 (nI u.1.1) (nI u.1.2.1) u.2)) u) t) (va_A (wXO h0 h1 h2 o0 cA cB cO M S (nI nn) (nI pp) fo) sz)) 1 6 (va_A (wXO h0 h1 h2 o0 cA cB cO M S (nI nn) (nI pp) fo) sz) := by
  refine va_MetW (cc := c_L_start) (maxL := 4) (ret := (some .int)) (hh := [(0, 9, 12, 18)]) (by decide) rfl ?_
  intro p e s m args below meth c s₁ B hml hv
  obtain ⟨rfl, ⟨hsz, hP, hK, hD0⟩, hZ⟩ := hv
  have hx := B.exec
  have hb := B.bytes
  have hr := B.returns
  have hts : ∀ w ∈ zAll, w.before _ s = true := fun w h => atoms_spec (ws := ws_L_start) B.pre w (List.mem_cons_of_mem _ h)
  have htab : c.exceptionTable.toList = tableOf [(0, 9, 12, 18)] := vx_table (x := y_L_start) B (atoms_spec (ws := ws_L_start) B.pre _ List.mem_cons_self)
  have hown : s.vm.findClass RL = some m.cls := findClass_of_methodNamed B.named
  have hlocks := B.notSynchronized
  subst hsz
  have hD := hD0.self (sz := s.heap.size)
  generalize hAe : va_A (wXO h0 h1 h2 o0 cA cB cO M S (nI nn) (nI pp) fo) s.heap.size = A at hD hZ ⊢
  have hA : ∀ q : Nat, s.heap.size ≤ q → A q := fun q h => by rw [← hAe]; exact Or.inr h
  have hS : va_S A s.heap s.heap [] := va_S.rf
  replace hP : va_P (dC, dI) vwCl [(h0, .inr (0, [.ref h1, .ref h2, .int (nI nn), .int (nI pp)])), (h1, .inl (cA, 512, .inl M)), (h2, .inl (cB, 512, .inl S)), (o0, .inl (cO, 1, .inr (.inl fo)))] s.heap := hP
  replace hD : va_D A [(h0, .inr (0, [.ref h1, .ref h2, .int (nI nn), .int (nI pp)])), (h1, .inl (cA, 512, .inl M)), (h2, .inl (cB, 512, .inl S)), (o0, .inl (cO, 1, .inr (.inl fo)))] := hD
  have hl := lv_entry ([.ref h0, .int x, .ref o0]) (n := 4) (Nat.le_of_ble_eq_true rfl)
  rw [lg_entry_eq]
  generalize (lg_sl ([.ref h0, .int x, .ref o0]) ++ List.replicate (4 - (lg_sl ([.ref h0, .int x, .ref o0])).length) Slot.unset).toArray = ls at hl ⊢
  replace hl : lv_has ls 4 [(0, .ref h0), (1, .int x), (2, .ref o0)] := hl
  refine lv_aload_n hx hb d_L_start_0 rfl (lv_at hl 2 rfl) ?_
  refine lv_iconst (v := nI 0) hx hb d_L_start_1 (by decide) ?_
  refine lv_aload_n hx hb d_L_start_2 rfl (lv_at hl 0 rfl) ?_
  refine lv_iload_n hx hb d_L_start_3 rfl (lv_at hl 1 rfl) ?_
  refine cx_Vi (wc := [(h0, .inr (0, [.ref h1, .ref h2, .int (nI nn), .int (nI pp)])), (h1, .inl (cA, 512, .inl M)), (h2, .inl (cB, 512, .inl S))]) (wr := [(o0, .inl (cO, 1, .inr (.inl fo)))]) (tys' := [(cA, .int), (cB, .int)]) ⟨hx, hb, hml, hown, hts⟩ hP hD hK hS hA hZ [0, 1, 2] [3] [0, 1] rfl rfl rfl (by decide) (by decide) (by decide) rfl (c_start l hlt dC dI h0 h1 h2 cA cB _ M S nn pp g0 x) (cwV 1 hts g_L_33 rfl rfl rfl (by decide +kernel) ⟨Nat.le_of_ble_eq_true rfl, Nat.le_of_ble_eq_true rfl⟩) 0 0 rfl rfl rfl rfl hl.1 rfl (Nat.le_of_ble_eq_true rfl) d_L_start_4 ⟨Nat.le_of_ble_eq_true rfl, Nat.le_of_ble_eq_true rfl⟩ (fun ce q9 H locs hbad hP hD hS y1 y2 y3 => ?_) (fun r_9 u H locs hw hP hD hS => ?_)
  · replace hP : va_P (dC, dI) vwCl [(o0, .inl (cO, 1, .inr (.inl fo))), (h0, .inr (0, [.ref h1, .ref h2, .int (nI nn), .int (nI pp)])), (h1, .inl (cA, 512, .inl M)), (h2, .inl (cB, 512, .inl S))] H := hP
    replace hD : va_D A [(o0, .inl (cO, 1, .inr (.inl fo))), (h0, .inr (0, [.ref h1, .ref h2, .int (nI nn), .int (nI pp)])), (h1, .inl (cA, 512, .inl M)), (h2, .inl (cB, 512, .inl S))] := hD
    refine vx_catch (pc := 4) hown [] ⟨0, 9, 12, 18⟩ [] htab (fun z h => absurd h List.not_mem_nil) (by decide) (by decide) (hts _ wl_L_18) (va_Nw.use (zBad_on _ wzb_IOOBE) (hZ.2.1 _ wzb_IOOBE)) y1 y2 y3 ?_
    refine W.eq (g2 := F0 m 12 ls [.ref q9]) rfl ?_
    refine lv_astore_n (lv' := [(3, .ref q9), (0, .ref h0), (1, .int x), (2, .ref o0)]) hx hb d_L_start_12 rfl hl (by decide) rfl (fun ls hl => ?_)
    refine lv_iconst (v := nI 1) hx hb d_L_start_13 (by decide) ?_
    replace hP := hP.sub (ws' := [(h0, .inr (0, [.ref h1, .ref h2, .int (nI nn), .int (nI pp)])), (h1, .inl (cA, 512, .inl M)), (h2, .inl (cB, 512, .inl S)), (o0, .inl (cO, 1, .inr (.inl fo)))]) [1, 2, 3, 0] rfl
    replace hD := hD.sub (ws' := [(h0, .inr (0, [.ref h1, .ref h2, .int (nI nn), .int (nI pp)])), (h1, .inl (cA, 512, .inl M)), (h2, .inl (cB, 512, .inl S)), (o0, .inl (cO, 1, .inr (.inl fo)))]) [1, 2, 3, 0] (by decide) rfl
    refine W.widen (k := 1) (n := 6) (by decide) (by decide) ?_
    exact W.iret (v := nI 1) hx hb hr (fun t9 ht9 hW9 => ⟨⟨nI 1, ((nn, pp, M, S), fo), rfl, Or.inr ⟨rfl, hbad, rfl⟩, by rw [ht9]; exact hP, va_K.moved hW9.alike hK, hD⟩, hS.F ht9⟩) hS.2.2 d_L_start_14
  · replace hP : va_P (dC, dI) vwCl [(o0, .inl (cO, 1, .inr (.inl fo))), (h0, .inr (0, [.ref h1, .ref h2, .int (nI nn), .int (nI pp)])), (h1, .inl (cA, 512, .inl M)), (h2, .inl (cB, 512, .inl S))] H := hP
    replace hD : va_D A [(o0, .inl (cO, 1, .inr (.inl fo))), (h0, .inr (0, [.ref h1, .ref h2, .int (nI nn), .int (nI pp)])), (h1, .inl (cA, 512, .inl M)), (h2, .inl (cB, 512, .inl S))] := hD
    refine lv_i2l (v := r_9.toInt64) hx hb d_L_start_7 rfl ?_
    refine va_last hx hb hK hP hD hS 0 2 rfl rfl (vp_in_nI (by omega) (by decide)) d_L_start_8 (fun H locs hP hD hS => ?_)
    rw [nI_clamp (by omega)] at hP hD
    replace hP : va_P (dC, dI) vwCl [(o0, .inl (cO, 1, .inr (.inl (vp_updL fo 0 r_9.toInt64)))), (h0, .inr (0, [.ref h1, .ref h2, .int (nI nn), .int (nI pp)])), (h1, .inl (cA, 512, .inl M)), (h2, .inl (cB, 512, .inl S))] H := hP
    replace hD : va_D A [(o0, .inl (cO, 1, .inr (.inl (vp_updL fo 0 r_9.toInt64)))), (h0, .inr (0, [.ref h1, .ref h2, .int (nI nn), .int (nI pp)])), (h1, .inl (cA, 512, .inl M)), (h2, .inl (cB, 512, .inl S))] := hD
    refine lv_goto (tgt := 15) hx hb d_L_start_9 (by decide) ?_
    refine lv_iconst (v := nI 0) hx hb d_L_start_15 (by decide) ?_
    replace hP := hP.sub (ws' := [(h0, .inr (0, [.ref h1, .ref h2, .int (nI nn), .int (nI pp)])), (h1, .inl (cA, 512, .inl M)), (h2, .inl (cB, 512, .inl S)), (o0, .inl (cO, 1, .inr (.inl (vp_updL fo 0 r_9.toInt64))))]) [1, 2, 3, 0] rfl
    replace hD := hD.sub (ws' := [(h0, .inr (0, [.ref h1, .ref h2, .int (nI nn), .int (nI pp)])), (h1, .inl (cA, 512, .inl M)), (h2, .inl (cB, 512, .inl S)), (o0, .inl (cO, 1, .inr (.inl (vp_updL fo 0 r_9.toInt64))))]) [1, 2, 3, 0] (by decide) rfl
    refine W.widen (k := 1) (n := 6) (by decide) (by decide) ?_
    exact W.iret (v := nI 0) hx hb hr (fun t9 ht9 hW9 => ⟨⟨nI 0, ((nn, pp, M, S), vp_updL fo 0 r_9.toInt64), rfl, Or.inl ⟨rfl, r_9, rfl, rfl, hw⟩, by rw [ht9]; exact hP, va_K.moved hW9.alike hK, hD⟩, hS.F ht9⟩) hS.2.2 d_L_start_16
set_option maxHeartbeats 4000000 in
set_option maxRecDepth 100000 in
/-- the law's own begins -/
theorem cL_begins (l : Launch) (hlt : l.stackTraces = false) (dC : Nat → ClassId) (dI : Nat → Nat → Nat) (h0 h1 h2 o0 : Nat) (cA cB cO : ClassId) (sz : Nat) (M S : Nat → Int32) (nn pp : Nat) (fo : Nat → Int64) (g0 : zCI nn pp M S) (x : Int32) : Met l y_L_begins ws_L_begins ({ frames := 8, cells := 1, slots := 6, locals := 132 }) (va_Pc [.ref h0, .int x, .ref o0] (cx_P (dC, dI) vwCl (wXO h0 h1 h2 o0 cA cB cO M S (nI nn) (nI pp) fo) (tXO cA cB cO) sz)) (va_Qi (S := (Nat × Nat × (Nat → Int32) × (Nat → Int32)) × (Nat → Int64)) (fun (r : Int32) (u : (Nat × Nat × (Nat → Int32) × (Nat → Int32)) × (Nat → Int64)) => (r = nI 0 ∧ ∃ rr : Int32, u.2 = vp_updL fo 0 rr.toInt64 ∧ u.1 = (nn, pp, M, S) ∧ ∃ k, k < (nn + 31) / 32 ∧ x = nI k ∧ rr = nI (zc (bt (M k)) 32)) ∨ (r = nI 1 ∧ (¬ ∃ k, k < (nn + 31) / 32 ∧ x = nI k) ∧ u = ((nn, pp, M, S), fo))) (fun u t => cc_B (dC, dI) vwCl (tXO cA cB cO) (va_A (wXO h0 h1 h2 o0 cA cB cO M S (nI nn) (nI pp) fo) sz) ((fun u : (Nat × Nat × (Nat → Int32) × (Nat → Int32)) × (Nat → Int64) => (wXO h0 h1 h2 o0 cA cB cO u.1.2.2.1 u.1.2.2.2 (nI u.1.1) (nI u.1.2.1) u.2)) u) t) (va_A (wXO h0 h1 h2 o0 cA cB cO M S (nI nn) (nI pp) fo) sz)) 1 6 (va_A (wXO h0 h1 h2 o0 cA cB cO M S (nI nn) (nI pp) fo) sz) := by
  refine va_MetW (cc := c_L_begins) (maxL := 4) (ret := (some .int)) (hh := [(0, 9, 12, 18)]) (by decide) rfl ?_
  intro p e s m args below meth c s₁ B hml hv
  obtain ⟨rfl, ⟨hsz, hP, hK, hD0⟩, hZ⟩ := hv
  have hx := B.exec
  have hb := B.bytes
  have hr := B.returns
  have hts : ∀ w ∈ zAll, w.before _ s = true := fun w h => atoms_spec (ws := ws_L_begins) B.pre w (List.mem_cons_of_mem _ h)
  have htab : c.exceptionTable.toList = tableOf [(0, 9, 12, 18)] := vx_table (x := y_L_begins) B (atoms_spec (ws := ws_L_begins) B.pre _ List.mem_cons_self)
  have hown : s.vm.findClass RL = some m.cls := findClass_of_methodNamed B.named
  have hlocks := B.notSynchronized
  subst hsz
  have hD := hD0.self (sz := s.heap.size)
  generalize hAe : va_A (wXO h0 h1 h2 o0 cA cB cO M S (nI nn) (nI pp) fo) s.heap.size = A at hD hZ ⊢
  have hA : ∀ q : Nat, s.heap.size ≤ q → A q := fun q h => by rw [← hAe]; exact Or.inr h
  have hS : va_S A s.heap s.heap [] := va_S.rf
  replace hP : va_P (dC, dI) vwCl [(h0, .inr (0, [.ref h1, .ref h2, .int (nI nn), .int (nI pp)])), (h1, .inl (cA, 512, .inl M)), (h2, .inl (cB, 512, .inl S)), (o0, .inl (cO, 1, .inr (.inl fo)))] s.heap := hP
  replace hD : va_D A [(h0, .inr (0, [.ref h1, .ref h2, .int (nI nn), .int (nI pp)])), (h1, .inl (cA, 512, .inl M)), (h2, .inl (cB, 512, .inl S)), (o0, .inl (cO, 1, .inr (.inl fo)))] := hD
  have hl := lv_entry ([.ref h0, .int x, .ref o0]) (n := 4) (Nat.le_of_ble_eq_true rfl)
  rw [lg_entry_eq]
  generalize (lg_sl ([.ref h0, .int x, .ref o0]) ++ List.replicate (4 - (lg_sl ([.ref h0, .int x, .ref o0])).length) Slot.unset).toArray = ls at hl ⊢
  replace hl : lv_has ls 4 [(0, .ref h0), (1, .int x), (2, .ref o0)] := hl
  refine lv_aload_n hx hb d_L_begins_0 rfl (lv_at hl 2 rfl) ?_
  refine lv_iconst (v := nI 0) hx hb d_L_begins_1 (by decide) ?_
  refine lv_aload_n hx hb d_L_begins_2 rfl (lv_at hl 0 rfl) ?_
  refine lv_iload_n hx hb d_L_begins_3 rfl (lv_at hl 1 rfl) ?_
  refine cx_Vi (wc := [(h0, .inr (0, [.ref h1, .ref h2, .int (nI nn), .int (nI pp)])), (h1, .inl (cA, 512, .inl M)), (h2, .inl (cB, 512, .inl S))]) (wr := [(o0, .inl (cO, 1, .inr (.inl fo)))]) (tys' := [(cA, .int), (cB, .int)]) ⟨hx, hb, hml, hown, hts⟩ hP hD hK hS hA hZ [0, 1, 2] [3] [0, 1] rfl rfl rfl (by decide) (by decide) (by decide) rfl (c_begins l hlt dC dI h0 h1 h2 cA cB _ M S nn pp g0 x) (cwV 1 hts g_L_36 rfl rfl rfl (by decide +kernel) ⟨Nat.le_of_ble_eq_true rfl, Nat.le_of_ble_eq_true rfl⟩) 0 0 rfl rfl rfl rfl hl.1 rfl (Nat.le_of_ble_eq_true rfl) d_L_begins_4 ⟨Nat.le_of_ble_eq_true rfl, Nat.le_of_ble_eq_true rfl⟩ (fun ce q9 H locs hbad hP hD hS y1 y2 y3 => ?_) (fun r_9 u H locs hw hP hD hS => ?_)
  · replace hP : va_P (dC, dI) vwCl [(o0, .inl (cO, 1, .inr (.inl fo))), (h0, .inr (0, [.ref h1, .ref h2, .int (nI nn), .int (nI pp)])), (h1, .inl (cA, 512, .inl M)), (h2, .inl (cB, 512, .inl S))] H := hP
    replace hD : va_D A [(o0, .inl (cO, 1, .inr (.inl fo))), (h0, .inr (0, [.ref h1, .ref h2, .int (nI nn), .int (nI pp)])), (h1, .inl (cA, 512, .inl M)), (h2, .inl (cB, 512, .inl S))] := hD
    refine vx_catch (pc := 4) hown [] ⟨0, 9, 12, 18⟩ [] htab (fun z h => absurd h List.not_mem_nil) (by decide) (by decide) (hts _ wl_L_18) (va_Nw.use (zBad_on _ wzb_IOOBE) (hZ.2.1 _ wzb_IOOBE)) y1 y2 y3 ?_
    refine W.eq (g2 := F0 m 12 ls [.ref q9]) rfl ?_
    refine lv_astore_n (lv' := [(3, .ref q9), (0, .ref h0), (1, .int x), (2, .ref o0)]) hx hb d_L_begins_12 rfl hl (by decide) rfl (fun ls hl => ?_)
    refine lv_iconst (v := nI 1) hx hb d_L_begins_13 (by decide) ?_
    replace hP := hP.sub (ws' := [(h0, .inr (0, [.ref h1, .ref h2, .int (nI nn), .int (nI pp)])), (h1, .inl (cA, 512, .inl M)), (h2, .inl (cB, 512, .inl S)), (o0, .inl (cO, 1, .inr (.inl fo)))]) [1, 2, 3, 0] rfl
    replace hD := hD.sub (ws' := [(h0, .inr (0, [.ref h1, .ref h2, .int (nI nn), .int (nI pp)])), (h1, .inl (cA, 512, .inl M)), (h2, .inl (cB, 512, .inl S)), (o0, .inl (cO, 1, .inr (.inl fo)))]) [1, 2, 3, 0] (by decide) rfl
    refine W.widen (k := 1) (n := 6) (by decide) (by decide) ?_
    exact W.iret (v := nI 1) hx hb hr (fun t9 ht9 hW9 => ⟨⟨nI 1, ((nn, pp, M, S), fo), rfl, Or.inr ⟨rfl, hbad, rfl⟩, by rw [ht9]; exact hP, va_K.moved hW9.alike hK, hD⟩, hS.F ht9⟩) hS.2.2 d_L_begins_14
  · replace hP : va_P (dC, dI) vwCl [(o0, .inl (cO, 1, .inr (.inl fo))), (h0, .inr (0, [.ref h1, .ref h2, .int (nI nn), .int (nI pp)])), (h1, .inl (cA, 512, .inl M)), (h2, .inl (cB, 512, .inl S))] H := hP
    replace hD : va_D A [(o0, .inl (cO, 1, .inr (.inl fo))), (h0, .inr (0, [.ref h1, .ref h2, .int (nI nn), .int (nI pp)])), (h1, .inl (cA, 512, .inl M)), (h2, .inl (cB, 512, .inl S))] := hD
    refine lv_i2l (v := r_9.toInt64) hx hb d_L_begins_7 rfl ?_
    refine va_last hx hb hK hP hD hS 0 2 rfl rfl (vp_in_nI (by omega) (by decide)) d_L_begins_8 (fun H locs hP hD hS => ?_)
    rw [nI_clamp (by omega)] at hP hD
    replace hP : va_P (dC, dI) vwCl [(o0, .inl (cO, 1, .inr (.inl (vp_updL fo 0 r_9.toInt64)))), (h0, .inr (0, [.ref h1, .ref h2, .int (nI nn), .int (nI pp)])), (h1, .inl (cA, 512, .inl M)), (h2, .inl (cB, 512, .inl S))] H := hP
    replace hD : va_D A [(o0, .inl (cO, 1, .inr (.inl (vp_updL fo 0 r_9.toInt64)))), (h0, .inr (0, [.ref h1, .ref h2, .int (nI nn), .int (nI pp)])), (h1, .inl (cA, 512, .inl M)), (h2, .inl (cB, 512, .inl S))] := hD
    refine lv_goto (tgt := 15) hx hb d_L_begins_9 (by decide) ?_
    refine lv_iconst (v := nI 0) hx hb d_L_begins_15 (by decide) ?_
    replace hP := hP.sub (ws' := [(h0, .inr (0, [.ref h1, .ref h2, .int (nI nn), .int (nI pp)])), (h1, .inl (cA, 512, .inl M)), (h2, .inl (cB, 512, .inl S)), (o0, .inl (cO, 1, .inr (.inl (vp_updL fo 0 r_9.toInt64))))]) [1, 2, 3, 0] rfl
    replace hD := hD.sub (ws' := [(h0, .inr (0, [.ref h1, .ref h2, .int (nI nn), .int (nI pp)])), (h1, .inl (cA, 512, .inl M)), (h2, .inl (cB, 512, .inl S)), (o0, .inl (cO, 1, .inr (.inl (vp_updL fo 0 r_9.toInt64))))]) [1, 2, 3, 0] (by decide) rfl
    refine W.widen (k := 1) (n := 6) (by decide) (by decide) ?_
    exact W.iret (v := nI 0) hx hb hr (fun t9 ht9 hW9 => ⟨⟨nI 0, ((nn, pp, M, S), vp_updL fo 0 r_9.toInt64), rfl, Or.inl ⟨rfl, r_9, rfl, rfl, hw⟩, by rw [ht9]; exact hP, va_K.moved hW9.alike hK, hD⟩, hS.F ht9⟩) hS.2.2 d_L_begins_16
set_option maxHeartbeats 4000000 in
set_option maxRecDepth 100000 in
/-- the law's own count -/
theorem cL_count (l : Launch) (hlt : l.stackTraces = false) (dC : Nat → ClassId) (dI : Nat → Nat → Nat) (h0 h1 h2 o0 : Nat) (cA cB cO : ClassId) (sz : Nat) (M S : Nat → Int32) (nn pp : Nat) (fo : Nat → Int64) (g0 : zCI nn pp M S) (x : Int32) : Met l y_L_count ws_L_count ({ frames := 7, cells := 1, slots := 6, locals := 114 }) (va_Pc [.ref h0, .int x, .ref o0] (cx_P (dC, dI) vwCl (wXO h0 h1 h2 o0 cA cB cO M S (nI nn) (nI pp) fo) (tXO cA cB cO) sz)) (va_Qi (S := (Nat × Nat × (Nat → Int32) × (Nat → Int32)) × (Nat → Int64)) (fun (r : Int32) (u : (Nat × Nat × (Nat → Int32) × (Nat → Int32)) × (Nat → Int64)) => (r = nI 0 ∧ ∃ rr : Int32, u.2 = vp_updL fo 0 rr.toInt64 ∧ u.1 = (nn, pp, M, S) ∧ ((x = nI 0 ∧ rr = nI (nn)) ∨ (x = nI 1 ∧ rr = nI ((nn + 31) / 32)) ∨ (x = nI 2 ∧ rr = nI (pp)) ∨ (x = nI 3 ∧ rr = nI (zF max (zm M) nn (pp - 1) (zn (zm M) nn 1) (zn (zm M) nn 1))) ∨ (x = nI 4 ∧ rr = nI (zF min (zm M) nn (pp - 1) (zn (zm M) nn 1) (zn (zm M) nn 1))))) ∨ (r = nI 1 ∧ (¬ (x = nI 0 ∨ x = nI 1 ∨ x = nI 2 ∨ x = nI 3 ∨ x = nI 4)) ∧ u = ((nn, pp, M, S), fo))) (fun u t => cc_B (dC, dI) vwCl (tXO cA cB cO) (va_A (wXO h0 h1 h2 o0 cA cB cO M S (nI nn) (nI pp) fo) sz) ((fun u : (Nat × Nat × (Nat → Int32) × (Nat → Int32)) × (Nat → Int64) => (wXO h0 h1 h2 o0 cA cB cO u.1.2.2.1 u.1.2.2.2 (nI u.1.1) (nI u.1.2.1) u.2)) u) t) (va_A (wXO h0 h1 h2 o0 cA cB cO M S (nI nn) (nI pp) fo) sz)) 1 6 (va_A (wXO h0 h1 h2 o0 cA cB cO M S (nI nn) (nI pp) fo) sz) := by
  refine va_MetW (cc := c_L_count) (maxL := 4) (ret := (some .int)) (hh := [(0, 9, 12, 13)]) (by decide) rfl ?_
  intro p e s m args below meth c s₁ B hml hv
  obtain ⟨rfl, ⟨hsz, hP, hK, hD0⟩, hZ⟩ := hv
  have hx := B.exec
  have hb := B.bytes
  have hr := B.returns
  have hts : ∀ w ∈ zAll, w.before _ s = true := fun w h => atoms_spec (ws := ws_L_count) B.pre w (List.mem_cons_of_mem _ h)
  have htab : c.exceptionTable.toList = tableOf [(0, 9, 12, 13)] := vx_table (x := y_L_count) B (atoms_spec (ws := ws_L_count) B.pre _ List.mem_cons_self)
  have hown : s.vm.findClass RL = some m.cls := findClass_of_methodNamed B.named
  have hlocks := B.notSynchronized
  subst hsz
  have hD := hD0.self (sz := s.heap.size)
  generalize hAe : va_A (wXO h0 h1 h2 o0 cA cB cO M S (nI nn) (nI pp) fo) s.heap.size = A at hD hZ ⊢
  have hA : ∀ q : Nat, s.heap.size ≤ q → A q := fun q h => by rw [← hAe]; exact Or.inr h
  have hS : va_S A s.heap s.heap [] := va_S.rf
  replace hP : va_P (dC, dI) vwCl [(h0, .inr (0, [.ref h1, .ref h2, .int (nI nn), .int (nI pp)])), (h1, .inl (cA, 512, .inl M)), (h2, .inl (cB, 512, .inl S)), (o0, .inl (cO, 1, .inr (.inl fo)))] s.heap := hP
  replace hD : va_D A [(h0, .inr (0, [.ref h1, .ref h2, .int (nI nn), .int (nI pp)])), (h1, .inl (cA, 512, .inl M)), (h2, .inl (cB, 512, .inl S)), (o0, .inl (cO, 1, .inr (.inl fo)))] := hD
  have hl := lv_entry ([.ref h0, .int x, .ref o0]) (n := 4) (Nat.le_of_ble_eq_true rfl)
  rw [lg_entry_eq]
  generalize (lg_sl ([.ref h0, .int x, .ref o0]) ++ List.replicate (4 - (lg_sl ([.ref h0, .int x, .ref o0])).length) Slot.unset).toArray = ls at hl ⊢
  replace hl : lv_has ls 4 [(0, .ref h0), (1, .int x), (2, .ref o0)] := hl
  refine lv_aload_n hx hb d_L_count_0 rfl (lv_at hl 2 rfl) ?_
  refine lv_iconst (v := nI 0) hx hb d_L_count_1 (by decide) ?_
  refine lv_aload_n hx hb d_L_count_2 rfl (lv_at hl 0 rfl) ?_
  refine lv_iload_n hx hb d_L_count_3 rfl (lv_at hl 1 rfl) ?_
  refine cx_Vi (wc := [(h0, .inr (0, [.ref h1, .ref h2, .int (nI nn), .int (nI pp)])), (h1, .inl (cA, 512, .inl M)), (h2, .inl (cB, 512, .inl S))]) (wr := [(o0, .inl (cO, 1, .inr (.inl fo)))]) (tys' := [(cA, .int), (cB, .int)]) ⟨hx, hb, hml, hown, hts⟩ hP hD hK hS hA hZ [0, 1, 2] [3] [0, 1] rfl rfl rfl (by decide) (by decide) (by decide) rfl (c_count l hlt dC dI h0 h1 h2 cA cB _ M S nn pp g0 x) (cwV 1 hts g_L_39 rfl rfl rfl (by decide +kernel) ⟨Nat.le_of_ble_eq_true rfl, Nat.le_of_ble_eq_true rfl⟩) 0 0 rfl rfl rfl rfl hl.1 rfl (Nat.le_of_ble_eq_true rfl) d_L_count_4 ⟨Nat.le_of_ble_eq_true rfl, Nat.le_of_ble_eq_true rfl⟩ (fun ce q9 H locs hbad hP hD hS y1 y2 y3 => ?_) (fun r_9 u H locs hw hP hD hS => ?_)
  · replace hP : va_P (dC, dI) vwCl [(o0, .inl (cO, 1, .inr (.inl fo))), (h0, .inr (0, [.ref h1, .ref h2, .int (nI nn), .int (nI pp)])), (h1, .inl (cA, 512, .inl M)), (h2, .inl (cB, 512, .inl S))] H := hP
    replace hD : va_D A [(o0, .inl (cO, 1, .inr (.inl fo))), (h0, .inr (0, [.ref h1, .ref h2, .int (nI nn), .int (nI pp)])), (h1, .inl (cA, 512, .inl M)), (h2, .inl (cB, 512, .inl S))] := hD
    refine vx_catch (pc := 4) hown [] ⟨0, 9, 12, 13⟩ [] htab (fun z h => absurd h List.not_mem_nil) (by decide) (by decide) (hts _ wl_L_13) (va_Nw.use (zBad_on _ wzb_IAE) (hZ.2.1 _ wzb_IAE)) y1 y2 y3 ?_
    refine W.eq (g2 := F0 m 12 ls [.ref q9]) rfl ?_
    refine lv_astore_n (lv' := [(3, .ref q9), (0, .ref h0), (1, .int x), (2, .ref o0)]) hx hb d_L_count_12 rfl hl (by decide) rfl (fun ls hl => ?_)
    refine lv_iconst (v := nI 1) hx hb d_L_count_13 (by decide) ?_
    replace hP := hP.sub (ws' := [(h0, .inr (0, [.ref h1, .ref h2, .int (nI nn), .int (nI pp)])), (h1, .inl (cA, 512, .inl M)), (h2, .inl (cB, 512, .inl S)), (o0, .inl (cO, 1, .inr (.inl fo)))]) [1, 2, 3, 0] rfl
    replace hD := hD.sub (ws' := [(h0, .inr (0, [.ref h1, .ref h2, .int (nI nn), .int (nI pp)])), (h1, .inl (cA, 512, .inl M)), (h2, .inl (cB, 512, .inl S)), (o0, .inl (cO, 1, .inr (.inl fo)))]) [1, 2, 3, 0] (by decide) rfl
    refine W.widen (k := 1) (n := 6) (by decide) (by decide) ?_
    exact W.iret (v := nI 1) hx hb hr (fun t9 ht9 hW9 => ⟨⟨nI 1, ((nn, pp, M, S), fo), rfl, Or.inr ⟨rfl, hbad, rfl⟩, by rw [ht9]; exact hP, va_K.moved hW9.alike hK, hD⟩, hS.F ht9⟩) hS.2.2 d_L_count_14
  · replace hP : va_P (dC, dI) vwCl [(o0, .inl (cO, 1, .inr (.inl fo))), (h0, .inr (0, [.ref h1, .ref h2, .int (nI nn), .int (nI pp)])), (h1, .inl (cA, 512, .inl M)), (h2, .inl (cB, 512, .inl S))] H := hP
    replace hD : va_D A [(o0, .inl (cO, 1, .inr (.inl fo))), (h0, .inr (0, [.ref h1, .ref h2, .int (nI nn), .int (nI pp)])), (h1, .inl (cA, 512, .inl M)), (h2, .inl (cB, 512, .inl S))] := hD
    refine lv_i2l (v := r_9.toInt64) hx hb d_L_count_7 rfl ?_
    refine va_last hx hb hK hP hD hS 0 2 rfl rfl (vp_in_nI (by omega) (by decide)) d_L_count_8 (fun H locs hP hD hS => ?_)
    rw [nI_clamp (by omega)] at hP hD
    replace hP : va_P (dC, dI) vwCl [(o0, .inl (cO, 1, .inr (.inl (vp_updL fo 0 r_9.toInt64)))), (h0, .inr (0, [.ref h1, .ref h2, .int (nI nn), .int (nI pp)])), (h1, .inl (cA, 512, .inl M)), (h2, .inl (cB, 512, .inl S))] H := hP
    replace hD : va_D A [(o0, .inl (cO, 1, .inr (.inl (vp_updL fo 0 r_9.toInt64)))), (h0, .inr (0, [.ref h1, .ref h2, .int (nI nn), .int (nI pp)])), (h1, .inl (cA, 512, .inl M)), (h2, .inl (cB, 512, .inl S))] := hD
    refine lv_goto (tgt := 15) hx hb d_L_count_9 (by decide) ?_
    refine lv_iconst (v := nI 0) hx hb d_L_count_15 (by decide) ?_
    replace hP := hP.sub (ws' := [(h0, .inr (0, [.ref h1, .ref h2, .int (nI nn), .int (nI pp)])), (h1, .inl (cA, 512, .inl M)), (h2, .inl (cB, 512, .inl S)), (o0, .inl (cO, 1, .inr (.inl (vp_updL fo 0 r_9.toInt64))))]) [1, 2, 3, 0] rfl
    replace hD := hD.sub (ws' := [(h0, .inr (0, [.ref h1, .ref h2, .int (nI nn), .int (nI pp)])), (h1, .inl (cA, 512, .inl M)), (h2, .inl (cB, 512, .inl S)), (o0, .inl (cO, 1, .inr (.inl (vp_updL fo 0 r_9.toInt64))))]) [1, 2, 3, 0] (by decide) rfl
    refine W.widen (k := 1) (n := 6) (by decide) (by decide) ?_
    exact W.iret (v := nI 0) hx hb hr (fun t9 ht9 hW9 => ⟨⟨nI 0, ((nn, pp, M, S), vp_updL fo 0 r_9.toInt64), rfl, Or.inl ⟨rfl, r_9, rfl, rfl, hw⟩, by rw [ht9]; exact hP, va_K.moved hW9.alike hK, hD⟩, hS.F ht9⟩) hS.2.2 d_L_count_16
set_option maxHeartbeats 4000000 in
set_option maxRecDepth 100000 in
/-- the law's own cut -/
theorem cL_cut (l : Launch) (hlt : l.stackTraces = false) (dC : Nat → ClassId) (dI : Nat → Nat → Nat) (h0 h1 h2 o0 : Nat) (cA cB cO : ClassId) (sz : Nat) (M S : Nat → Int32) (nn pp : Nat) (fo : Nat → Int64) (g0 : zCI nn pp M S) (x : Int32) : Met l y_L_cut ws_L_cut ({ frames := 8, cells := 1, slots := 6, locals := 133 }) (va_Pc [.ref h0, .int x, .ref o0] (cx_P (dC, dI) vwCl (wXO h0 h1 h2 o0 cA cB cO M S (nI nn) (nI pp) fo) (tXO cA cB cO) sz)) (va_Qi (S := (Nat × Nat × (Nat → Int32) × (Nat → Int32)) × (Nat → Int64)) (fun (r : Int32) (u : (Nat × Nat × (Nat → Int32) × (Nat → Int32)) × (Nat → Int64)) => (r = nI 0 ∧ ∃ rr : Int32, u.2 = vp_updL fo 0 rr.toInt64 ∧ u.1.1 = nn ∧ zCI nn u.1.2.1 u.1.2.2.1 u.1.2.2.2 ∧ ∃ k, k < nn ∧ x = nI k ∧ rr = nI (k - zb (zm M) k) ∧ ∀ j, zm u.1.2.2.1 j = (zm M j || decide (j = k))) ∨ (r = nI 1 ∧ (¬ ∃ k, k < nn ∧ x = nI k) ∧ u = ((nn, pp, M, S), fo))) (fun u t => cc_B (dC, dI) vwCl (tXO cA cB cO) (va_A (wXO h0 h1 h2 o0 cA cB cO M S (nI nn) (nI pp) fo) sz) ((fun u : (Nat × Nat × (Nat → Int32) × (Nat → Int32)) × (Nat → Int64) => (wXO h0 h1 h2 o0 cA cB cO u.1.2.2.1 u.1.2.2.2 (nI u.1.1) (nI u.1.2.1) u.2)) u) t) (va_A (wXO h0 h1 h2 o0 cA cB cO M S (nI nn) (nI pp) fo) sz)) 1 6 (va_A (wXO h0 h1 h2 o0 cA cB cO M S (nI nn) (nI pp) fo) sz) := by
  refine va_MetW (cc := c_L_cut) (maxL := 4) (ret := (some .int)) (hh := [(0, 9, 12, 18)]) (by decide) rfl ?_
  intro p e s m args below meth c s₁ B hml hv
  obtain ⟨rfl, ⟨hsz, hP, hK, hD0⟩, hZ⟩ := hv
  have hx := B.exec
  have hb := B.bytes
  have hr := B.returns
  have hts : ∀ w ∈ zAll, w.before _ s = true := fun w h => atoms_spec (ws := ws_L_cut) B.pre w (List.mem_cons_of_mem _ h)
  have htab : c.exceptionTable.toList = tableOf [(0, 9, 12, 18)] := vx_table (x := y_L_cut) B (atoms_spec (ws := ws_L_cut) B.pre _ List.mem_cons_self)
  have hown : s.vm.findClass RL = some m.cls := findClass_of_methodNamed B.named
  have hlocks := B.notSynchronized
  subst hsz
  have hD := hD0.self (sz := s.heap.size)
  generalize hAe : va_A (wXO h0 h1 h2 o0 cA cB cO M S (nI nn) (nI pp) fo) s.heap.size = A at hD hZ ⊢
  have hA : ∀ q : Nat, s.heap.size ≤ q → A q := fun q h => by rw [← hAe]; exact Or.inr h
  have hS : va_S A s.heap s.heap [] := va_S.rf
  replace hP : va_P (dC, dI) vwCl [(h0, .inr (0, [.ref h1, .ref h2, .int (nI nn), .int (nI pp)])), (h1, .inl (cA, 512, .inl M)), (h2, .inl (cB, 512, .inl S)), (o0, .inl (cO, 1, .inr (.inl fo)))] s.heap := hP
  replace hD : va_D A [(h0, .inr (0, [.ref h1, .ref h2, .int (nI nn), .int (nI pp)])), (h1, .inl (cA, 512, .inl M)), (h2, .inl (cB, 512, .inl S)), (o0, .inl (cO, 1, .inr (.inl fo)))] := hD
  have hl := lv_entry ([.ref h0, .int x, .ref o0]) (n := 4) (Nat.le_of_ble_eq_true rfl)
  rw [lg_entry_eq]
  generalize (lg_sl ([.ref h0, .int x, .ref o0]) ++ List.replicate (4 - (lg_sl ([.ref h0, .int x, .ref o0])).length) Slot.unset).toArray = ls at hl ⊢
  replace hl : lv_has ls 4 [(0, .ref h0), (1, .int x), (2, .ref o0)] := hl
  refine lv_aload_n hx hb d_L_cut_0 rfl (lv_at hl 2 rfl) ?_
  refine lv_iconst (v := nI 0) hx hb d_L_cut_1 (by decide) ?_
  refine lv_aload_n hx hb d_L_cut_2 rfl (lv_at hl 0 rfl) ?_
  refine lv_iload_n hx hb d_L_cut_3 rfl (lv_at hl 1 rfl) ?_
  refine cx_Vi (wc := [(h0, .inr (0, [.ref h1, .ref h2, .int (nI nn), .int (nI pp)])), (h1, .inl (cA, 512, .inl M)), (h2, .inl (cB, 512, .inl S))]) (wr := [(o0, .inl (cO, 1, .inr (.inl fo)))]) (tys' := [(cA, .int), (cB, .int)]) ⟨hx, hb, hml, hown, hts⟩ hP hD hK hS hA hZ [0, 1, 2] [3] [0, 1] rfl rfl rfl (by decide) (by decide) (by decide) rfl (c_cut l hlt dC dI h0 h1 h2 cA cB _ M S nn pp g0 x) (cwV 1 hts g_L_15 rfl rfl rfl (by decide +kernel) ⟨Nat.le_of_ble_eq_true rfl, Nat.le_of_ble_eq_true rfl⟩) 0 0 rfl rfl rfl rfl hl.1 rfl (Nat.le_of_ble_eq_true rfl) d_L_cut_4 ⟨Nat.le_of_ble_eq_true rfl, Nat.le_of_ble_eq_true rfl⟩ (fun ce q9 H locs hbad hP hD hS y1 y2 y3 => ?_) (fun r_9 u H locs hw hP hD hS => ?_)
  · replace hP : va_P (dC, dI) vwCl [(o0, .inl (cO, 1, .inr (.inl fo))), (h0, .inr (0, [.ref h1, .ref h2, .int (nI nn), .int (nI pp)])), (h1, .inl (cA, 512, .inl M)), (h2, .inl (cB, 512, .inl S))] H := hP
    replace hD : va_D A [(o0, .inl (cO, 1, .inr (.inl fo))), (h0, .inr (0, [.ref h1, .ref h2, .int (nI nn), .int (nI pp)])), (h1, .inl (cA, 512, .inl M)), (h2, .inl (cB, 512, .inl S))] := hD
    refine vx_catch (pc := 4) hown [] ⟨0, 9, 12, 18⟩ [] htab (fun z h => absurd h List.not_mem_nil) (by decide) (by decide) (hts _ wl_L_18) (va_Nw.use (zBad_on _ wzb_IOOBE) (hZ.2.1 _ wzb_IOOBE)) y1 y2 y3 ?_
    refine W.eq (g2 := F0 m 12 ls [.ref q9]) rfl ?_
    refine lv_astore_n (lv' := [(3, .ref q9), (0, .ref h0), (1, .int x), (2, .ref o0)]) hx hb d_L_cut_12 rfl hl (by decide) rfl (fun ls hl => ?_)
    refine lv_iconst (v := nI 1) hx hb d_L_cut_13 (by decide) ?_
    replace hP := hP.sub (ws' := [(h0, .inr (0, [.ref h1, .ref h2, .int (nI nn), .int (nI pp)])), (h1, .inl (cA, 512, .inl M)), (h2, .inl (cB, 512, .inl S)), (o0, .inl (cO, 1, .inr (.inl fo)))]) [1, 2, 3, 0] rfl
    replace hD := hD.sub (ws' := [(h0, .inr (0, [.ref h1, .ref h2, .int (nI nn), .int (nI pp)])), (h1, .inl (cA, 512, .inl M)), (h2, .inl (cB, 512, .inl S)), (o0, .inl (cO, 1, .inr (.inl fo)))]) [1, 2, 3, 0] (by decide) rfl
    refine W.widen (k := 1) (n := 6) (by decide) (by decide) ?_
    exact W.iret (v := nI 1) hx hb hr (fun t9 ht9 hW9 => ⟨⟨nI 1, ((nn, pp, M, S), fo), rfl, Or.inr ⟨rfl, hbad, rfl⟩, by rw [ht9]; exact hP, va_K.moved hW9.alike hK, hD⟩, hS.F ht9⟩) hS.2.2 d_L_cut_14
  · replace hP : va_P (dC, dI) vwCl [(o0, .inl (cO, 1, .inr (.inl fo))), (h0, .inr (0, [.ref h1, .ref h2, .int (nI nn), .int (nI u.2.2)])), (h1, .inl (cA, 512, .inl u.1)), (h2, .inl (cB, 512, .inl u.2.1))] H := hP
    replace hD : va_D A [(o0, .inl (cO, 1, .inr (.inl fo))), (h0, .inr (0, [.ref h1, .ref h2, .int (nI nn), .int (nI u.2.2)])), (h1, .inl (cA, 512, .inl u.1)), (h2, .inl (cB, 512, .inl u.2.1))] := hD
    refine lv_i2l (v := r_9.toInt64) hx hb d_L_cut_7 rfl ?_
    refine va_last hx hb hK hP hD hS 0 2 rfl rfl (vp_in_nI (by omega) (by decide)) d_L_cut_8 (fun H locs hP hD hS => ?_)
    rw [nI_clamp (by omega)] at hP hD
    replace hP : va_P (dC, dI) vwCl [(o0, .inl (cO, 1, .inr (.inl (vp_updL fo 0 r_9.toInt64)))), (h0, .inr (0, [.ref h1, .ref h2, .int (nI nn), .int (nI u.2.2)])), (h1, .inl (cA, 512, .inl u.1)), (h2, .inl (cB, 512, .inl u.2.1))] H := hP
    replace hD : va_D A [(o0, .inl (cO, 1, .inr (.inl (vp_updL fo 0 r_9.toInt64)))), (h0, .inr (0, [.ref h1, .ref h2, .int (nI nn), .int (nI u.2.2)])), (h1, .inl (cA, 512, .inl u.1)), (h2, .inl (cB, 512, .inl u.2.1))] := hD
    refine lv_goto (tgt := 15) hx hb d_L_cut_9 (by decide) ?_
    refine lv_iconst (v := nI 0) hx hb d_L_cut_15 (by decide) ?_
    replace hP := hP.sub (ws' := [(h0, .inr (0, [.ref h1, .ref h2, .int (nI nn), .int (nI u.2.2)])), (h1, .inl (cA, 512, .inl u.1)), (h2, .inl (cB, 512, .inl u.2.1)), (o0, .inl (cO, 1, .inr (.inl (vp_updL fo 0 r_9.toInt64))))]) [1, 2, 3, 0] rfl
    replace hD := hD.sub (ws' := [(h0, .inr (0, [.ref h1, .ref h2, .int (nI nn), .int (nI u.2.2)])), (h1, .inl (cA, 512, .inl u.1)), (h2, .inl (cB, 512, .inl u.2.1)), (o0, .inl (cO, 1, .inr (.inl (vp_updL fo 0 r_9.toInt64))))]) [1, 2, 3, 0] (by decide) rfl
    refine W.widen (k := 1) (n := 6) (by decide) (by decide) ?_
    obtain ⟨k, k1, k2, k3, k4, k5⟩ := hw
    exact W.iret (v := nI 0) hx hb hr (fun t9 ht9 hW9 => ⟨⟨nI 0, ((nn, u.2.2, u.1, u.2.1), vp_updL fo 0 r_9.toInt64), rfl, Or.inl ⟨rfl, r_9, rfl, rfl, k4, k, k1, k2, k3, k5⟩, by rw [ht9]; exact hP, va_K.moved hW9.alike hK, hD⟩, hS.F ht9⟩) hS.2.2 d_L_cut_16
set_option maxHeartbeats 4000000 in
set_option maxRecDepth 100000 in
/-- the law's own join -/
theorem cL_join (l : Launch) (hlt : l.stackTraces = false) (dC : Nat → ClassId) (dI : Nat → Nat → Nat) (h0 h1 h2 o0 : Nat) (cA cB cO : ClassId) (sz : Nat) (M S : Nat → Int32) (nn pp : Nat) (fo : Nat → Int64) (g0 : zCI nn pp M S) (x : Int32) : Met l y_L_join ws_L_join ({ frames := 8, cells := 1, slots := 6, locals := 135 }) (va_Pc [.ref h0, .int x, .ref o0] (cx_P (dC, dI) vwCl (wXO h0 h1 h2 o0 cA cB cO M S (nI nn) (nI pp) fo) (tXO cA cB cO) sz)) (va_Qi (S := (Nat × Nat × (Nat → Int32) × (Nat → Int32)) × (Nat → Int64)) (fun (r : Int32) (u : (Nat × Nat × (Nat → Int32) × (Nat → Int32)) × (Nat → Int64)) => (r = nI 0 ∧ ∃ rr : Int32, u.2 = vp_updL fo 0 rr.toInt64 ∧ u.1.1 = nn ∧ zCI nn u.1.2.1 u.1.2.2.1 u.1.2.2.2 ∧ ∃ k, k < nn ∧ x = nI k ∧ rr = nI (if zn (zm M) nn (k + 1) < nn then zn (zm M) nn (zn (zm M) nn (k + 1) + 1) - zb (zm M) k else 0) ∧ ∀ j, j < 16384 → zm u.1.2.2.1 j = (zm M j && !decide (j = zn (zm M) nn (k + 1)))) ∨ (r = nI 1 ∧ (¬ ∃ k, k < nn ∧ x = nI k) ∧ u = ((nn, pp, M, S), fo))) (fun u t => cc_B (dC, dI) vwCl (tXO cA cB cO) (va_A (wXO h0 h1 h2 o0 cA cB cO M S (nI nn) (nI pp) fo) sz) ((fun u : (Nat × Nat × (Nat → Int32) × (Nat → Int32)) × (Nat → Int64) => (wXO h0 h1 h2 o0 cA cB cO u.1.2.2.1 u.1.2.2.2 (nI u.1.1) (nI u.1.2.1) u.2)) u) t) (va_A (wXO h0 h1 h2 o0 cA cB cO M S (nI nn) (nI pp) fo) sz)) 1 6 (va_A (wXO h0 h1 h2 o0 cA cB cO M S (nI nn) (nI pp) fo) sz) := by
  refine va_MetW (cc := c_L_join) (maxL := 4) (ret := (some .int)) (hh := [(0, 9, 12, 18)]) (by decide) rfl ?_
  intro p e s m args below meth c s₁ B hml hv
  obtain ⟨rfl, ⟨hsz, hP, hK, hD0⟩, hZ⟩ := hv
  have hx := B.exec
  have hb := B.bytes
  have hr := B.returns
  have hts : ∀ w ∈ zAll, w.before _ s = true := fun w h => atoms_spec (ws := ws_L_join) B.pre w (List.mem_cons_of_mem _ h)
  have htab : c.exceptionTable.toList = tableOf [(0, 9, 12, 18)] := vx_table (x := y_L_join) B (atoms_spec (ws := ws_L_join) B.pre _ List.mem_cons_self)
  have hown : s.vm.findClass RL = some m.cls := findClass_of_methodNamed B.named
  have hlocks := B.notSynchronized
  subst hsz
  have hD := hD0.self (sz := s.heap.size)
  generalize hAe : va_A (wXO h0 h1 h2 o0 cA cB cO M S (nI nn) (nI pp) fo) s.heap.size = A at hD hZ ⊢
  have hA : ∀ q : Nat, s.heap.size ≤ q → A q := fun q h => by rw [← hAe]; exact Or.inr h
  have hS : va_S A s.heap s.heap [] := va_S.rf
  replace hP : va_P (dC, dI) vwCl [(h0, .inr (0, [.ref h1, .ref h2, .int (nI nn), .int (nI pp)])), (h1, .inl (cA, 512, .inl M)), (h2, .inl (cB, 512, .inl S)), (o0, .inl (cO, 1, .inr (.inl fo)))] s.heap := hP
  replace hD : va_D A [(h0, .inr (0, [.ref h1, .ref h2, .int (nI nn), .int (nI pp)])), (h1, .inl (cA, 512, .inl M)), (h2, .inl (cB, 512, .inl S)), (o0, .inl (cO, 1, .inr (.inl fo)))] := hD
  have hl := lv_entry ([.ref h0, .int x, .ref o0]) (n := 4) (Nat.le_of_ble_eq_true rfl)
  rw [lg_entry_eq]
  generalize (lg_sl ([.ref h0, .int x, .ref o0]) ++ List.replicate (4 - (lg_sl ([.ref h0, .int x, .ref o0])).length) Slot.unset).toArray = ls at hl ⊢
  replace hl : lv_has ls 4 [(0, .ref h0), (1, .int x), (2, .ref o0)] := hl
  refine lv_aload_n hx hb d_L_join_0 rfl (lv_at hl 2 rfl) ?_
  refine lv_iconst (v := nI 0) hx hb d_L_join_1 (by decide) ?_
  refine lv_aload_n hx hb d_L_join_2 rfl (lv_at hl 0 rfl) ?_
  refine lv_iload_n hx hb d_L_join_3 rfl (lv_at hl 1 rfl) ?_
  refine cx_Vi (wc := [(h0, .inr (0, [.ref h1, .ref h2, .int (nI nn), .int (nI pp)])), (h1, .inl (cA, 512, .inl M)), (h2, .inl (cB, 512, .inl S))]) (wr := [(o0, .inl (cO, 1, .inr (.inl fo)))]) (tys' := [(cA, .int), (cB, .int)]) ⟨hx, hb, hml, hown, hts⟩ hP hD hK hS hA hZ [0, 1, 2] [3] [0, 1] rfl rfl rfl (by decide) (by decide) (by decide) rfl (c_join l hlt dC dI h0 h1 h2 cA cB _ M S nn pp g0 x) (cwV 1 hts g_L_20 rfl rfl rfl (by decide +kernel) ⟨Nat.le_of_ble_eq_true rfl, Nat.le_of_ble_eq_true rfl⟩) 0 0 rfl rfl rfl rfl hl.1 rfl (Nat.le_of_ble_eq_true rfl) d_L_join_4 ⟨Nat.le_of_ble_eq_true rfl, Nat.le_of_ble_eq_true rfl⟩ (fun ce q9 H locs hbad hP hD hS y1 y2 y3 => ?_) (fun r_9 u H locs hw hP hD hS => ?_)
  · replace hP : va_P (dC, dI) vwCl [(o0, .inl (cO, 1, .inr (.inl fo))), (h0, .inr (0, [.ref h1, .ref h2, .int (nI nn), .int (nI pp)])), (h1, .inl (cA, 512, .inl M)), (h2, .inl (cB, 512, .inl S))] H := hP
    replace hD : va_D A [(o0, .inl (cO, 1, .inr (.inl fo))), (h0, .inr (0, [.ref h1, .ref h2, .int (nI nn), .int (nI pp)])), (h1, .inl (cA, 512, .inl M)), (h2, .inl (cB, 512, .inl S))] := hD
    refine vx_catch (pc := 4) hown [] ⟨0, 9, 12, 18⟩ [] htab (fun z h => absurd h List.not_mem_nil) (by decide) (by decide) (hts _ wl_L_18) (va_Nw.use (zBad_on _ wzb_IOOBE) (hZ.2.1 _ wzb_IOOBE)) y1 y2 y3 ?_
    refine W.eq (g2 := F0 m 12 ls [.ref q9]) rfl ?_
    refine lv_astore_n (lv' := [(3, .ref q9), (0, .ref h0), (1, .int x), (2, .ref o0)]) hx hb d_L_join_12 rfl hl (by decide) rfl (fun ls hl => ?_)
    refine lv_iconst (v := nI 1) hx hb d_L_join_13 (by decide) ?_
    replace hP := hP.sub (ws' := [(h0, .inr (0, [.ref h1, .ref h2, .int (nI nn), .int (nI pp)])), (h1, .inl (cA, 512, .inl M)), (h2, .inl (cB, 512, .inl S)), (o0, .inl (cO, 1, .inr (.inl fo)))]) [1, 2, 3, 0] rfl
    replace hD := hD.sub (ws' := [(h0, .inr (0, [.ref h1, .ref h2, .int (nI nn), .int (nI pp)])), (h1, .inl (cA, 512, .inl M)), (h2, .inl (cB, 512, .inl S)), (o0, .inl (cO, 1, .inr (.inl fo)))]) [1, 2, 3, 0] (by decide) rfl
    refine W.widen (k := 1) (n := 6) (by decide) (by decide) ?_
    exact W.iret (v := nI 1) hx hb hr (fun t9 ht9 hW9 => ⟨⟨nI 1, ((nn, pp, M, S), fo), rfl, Or.inr ⟨rfl, hbad, rfl⟩, by rw [ht9]; exact hP, va_K.moved hW9.alike hK, hD⟩, hS.F ht9⟩) hS.2.2 d_L_join_14
  · replace hP : va_P (dC, dI) vwCl [(o0, .inl (cO, 1, .inr (.inl fo))), (h0, .inr (0, [.ref h1, .ref h2, .int (nI nn), .int (nI u.2.2)])), (h1, .inl (cA, 512, .inl u.1)), (h2, .inl (cB, 512, .inl u.2.1))] H := hP
    replace hD : va_D A [(o0, .inl (cO, 1, .inr (.inl fo))), (h0, .inr (0, [.ref h1, .ref h2, .int (nI nn), .int (nI u.2.2)])), (h1, .inl (cA, 512, .inl u.1)), (h2, .inl (cB, 512, .inl u.2.1))] := hD
    refine lv_i2l (v := r_9.toInt64) hx hb d_L_join_7 rfl ?_
    refine va_last hx hb hK hP hD hS 0 2 rfl rfl (vp_in_nI (by omega) (by decide)) d_L_join_8 (fun H locs hP hD hS => ?_)
    rw [nI_clamp (by omega)] at hP hD
    replace hP : va_P (dC, dI) vwCl [(o0, .inl (cO, 1, .inr (.inl (vp_updL fo 0 r_9.toInt64)))), (h0, .inr (0, [.ref h1, .ref h2, .int (nI nn), .int (nI u.2.2)])), (h1, .inl (cA, 512, .inl u.1)), (h2, .inl (cB, 512, .inl u.2.1))] H := hP
    replace hD : va_D A [(o0, .inl (cO, 1, .inr (.inl (vp_updL fo 0 r_9.toInt64)))), (h0, .inr (0, [.ref h1, .ref h2, .int (nI nn), .int (nI u.2.2)])), (h1, .inl (cA, 512, .inl u.1)), (h2, .inl (cB, 512, .inl u.2.1))] := hD
    refine lv_goto (tgt := 15) hx hb d_L_join_9 (by decide) ?_
    refine lv_iconst (v := nI 0) hx hb d_L_join_15 (by decide) ?_
    replace hP := hP.sub (ws' := [(h0, .inr (0, [.ref h1, .ref h2, .int (nI nn), .int (nI u.2.2)])), (h1, .inl (cA, 512, .inl u.1)), (h2, .inl (cB, 512, .inl u.2.1)), (o0, .inl (cO, 1, .inr (.inl (vp_updL fo 0 r_9.toInt64))))]) [1, 2, 3, 0] rfl
    replace hD := hD.sub (ws' := [(h0, .inr (0, [.ref h1, .ref h2, .int (nI nn), .int (nI u.2.2)])), (h1, .inl (cA, 512, .inl u.1)), (h2, .inl (cB, 512, .inl u.2.1)), (o0, .inl (cO, 1, .inr (.inl (vp_updL fo 0 r_9.toInt64))))]) [1, 2, 3, 0] (by decide) rfl
    refine W.widen (k := 1) (n := 6) (by decide) (by decide) ?_
    obtain ⟨k, k1, k2, k3, k4, k5⟩ := hw
    exact W.iret (v := nI 0) hx hb hr (fun t9 ht9 hW9 => ⟨⟨nI 0, ((nn, u.2.2, u.1, u.2.1), vp_updL fo 0 r_9.toInt64), rfl, Or.inl ⟨rfl, r_9, rfl, rfl, k4, k, k1, k2, k3, k5⟩, by rw [ht9]; exact hP, va_K.moved hW9.alike hK, hD⟩, hS.F ht9⟩) hS.2.2 d_L_join_16
set_option maxHeartbeats 4000000 in
set_option maxRecDepth 100000 in
/-- the law's own make -/
theorem cL_make (l : Launch) (hlt : l.stackTraces = false) (dC : Nat → ClassId) (dI : Nat → Nat → Nat) (h0 h1 h2 o0 : Nat) (cA cB cO : ClassId) (sz : Nat) (M S : Nat → Int32) (nn pp : Nat) (fo : Nat → Int64) (g0 : zCI nn pp M S) (x z : Int32) : Met l y_L_make ws_L_make ({ frames := 8, cells := 2, slots := 12, locals := 133 }) (va_Pc [.ref h0, .int x, .int z, .ref o0] (cx_P (dC, dI) vwCl (wXO h0 h1 h2 o0 cA cB cO M S (nI nn) (nI pp) fo) (tXO cA cB cO) sz)) (va_Qi (S := (Nat × Nat × (Nat → Int32) × (Nat → Int32)) × (Nat → Int64)) (fun (r : Int32) (u : (Nat × Nat × (Nat → Int32) × (Nat → Int32)) × (Nat → Int64)) => (r = nI 0 ∧ ∃ rr : Int32, u.2 = vp_updL fo 0 rr.toInt64 ∧ u.1.1 = nn ∧ zCI nn u.1.2.1 u.1.2.2.1 u.1.2.2.2 ∧ ∃ a b, x = nI a ∧ z = nI b ∧ a < b ∧ b ≤ nn ∧ rr = nI u.1.2.1 ∧ ∀ j, j < 16384 → zm u.1.2.2.1 j = ((zm M j || decide (j = a) || (decide (j = b) && decide (b < nn))) && !decide (a < j ∧ j < b))) ∨ (r = nI 1 ∧ (¬ ∃ a b, x = nI a ∧ z = nI b ∧ a < b ∧ b ≤ nn) ∧ u = ((nn, pp, M, S), fo))) (fun u t => cc_B (dC, dI) vwCl (tXO cA cB cO) (va_A (wXO h0 h1 h2 o0 cA cB cO M S (nI nn) (nI pp) fo) sz) ((fun u : (Nat × Nat × (Nat → Int32) × (Nat → Int32)) × (Nat → Int64) => (wXO h0 h1 h2 o0 cA cB cO u.1.2.2.1 u.1.2.2.2 (nI u.1.1) (nI u.1.2.1) u.2)) u) t) (va_A (wXO h0 h1 h2 o0 cA cB cO M S (nI nn) (nI pp) fo) sz)) 2 12 (va_A (wXO h0 h1 h2 o0 cA cB cO M S (nI nn) (nI pp) fo) sz) := by
  refine va_MetW (cc := c_L_make) (maxL := 5) (ret := (some .int)) (hh := [(0, 10, 13, 18)]) (by decide) rfl ?_
  intro p e s m args below meth c s₁ B hml hv
  obtain ⟨rfl, ⟨hsz, hP, hK, hD0⟩, hZ⟩ := hv
  have hx := B.exec
  have hb := B.bytes
  have hr := B.returns
  have hts : ∀ w ∈ zAll, w.before _ s = true := fun w h => atoms_spec (ws := ws_L_make) B.pre w (List.mem_cons_of_mem _ h)
  have htab : c.exceptionTable.toList = tableOf [(0, 10, 13, 18)] := vx_table (x := y_L_make) B (atoms_spec (ws := ws_L_make) B.pre _ List.mem_cons_self)
  have hown : s.vm.findClass RL = some m.cls := findClass_of_methodNamed B.named
  have hlocks := B.notSynchronized
  subst hsz
  have hD := hD0.self (sz := s.heap.size)
  generalize hAe : va_A (wXO h0 h1 h2 o0 cA cB cO M S (nI nn) (nI pp) fo) s.heap.size = A at hD hZ ⊢
  have hA : ∀ q : Nat, s.heap.size ≤ q → A q := fun q h => by rw [← hAe]; exact Or.inr h
  have hS : va_S A s.heap s.heap [] := va_S.rf
  replace hP : va_P (dC, dI) vwCl [(h0, .inr (0, [.ref h1, .ref h2, .int (nI nn), .int (nI pp)])), (h1, .inl (cA, 512, .inl M)), (h2, .inl (cB, 512, .inl S)), (o0, .inl (cO, 1, .inr (.inl fo)))] s.heap := hP
  replace hD : va_D A [(h0, .inr (0, [.ref h1, .ref h2, .int (nI nn), .int (nI pp)])), (h1, .inl (cA, 512, .inl M)), (h2, .inl (cB, 512, .inl S)), (o0, .inl (cO, 1, .inr (.inl fo)))] := hD
  have hl := lv_entry ([.ref h0, .int x, .int z, .ref o0]) (n := 5) (Nat.le_of_ble_eq_true rfl)
  rw [lg_entry_eq]
  generalize (lg_sl ([.ref h0, .int x, .int z, .ref o0]) ++ List.replicate (5 - (lg_sl ([.ref h0, .int x, .int z, .ref o0])).length) Slot.unset).toArray = ls at hl ⊢
  replace hl : lv_has ls 5 [(0, .ref h0), (1, .int x), (2, .int z), (3, .ref o0)] := hl
  refine lv_aload_n hx hb d_L_make_0 rfl (lv_at hl 3 rfl) ?_
  refine lv_iconst (v := nI 0) hx hb d_L_make_1 (by decide) ?_
  refine lv_aload_n hx hb d_L_make_2 rfl (lv_at hl 0 rfl) ?_
  refine lv_iload_n hx hb d_L_make_3 rfl (lv_at hl 1 rfl) ?_
  refine lv_iload_n hx hb d_L_make_4 rfl (lv_at hl 2 rfl) ?_
  refine cx_Vi (wc := [(h0, .inr (0, [.ref h1, .ref h2, .int (nI nn), .int (nI pp)])), (h1, .inl (cA, 512, .inl M)), (h2, .inl (cB, 512, .inl S))]) (wr := [(o0, .inl (cO, 1, .inr (.inl fo)))]) (tys' := [(cA, .int), (cB, .int)]) ⟨hx, hb, hml, hown, hts⟩ hP hD hK hS hA hZ [0, 1, 2] [3] [0, 1] rfl rfl rfl (by decide) (by decide) (by decide) rfl (c_make l hlt dC dI h0 h1 h2 cA cB _ M S nn pp g0 x z) (cwV 2 hts g_L_23 rfl rfl rfl (by decide +kernel) ⟨Nat.le_of_ble_eq_true rfl, Nat.le_of_ble_eq_true rfl⟩) 0 0 rfl rfl rfl rfl hl.1 rfl (Nat.le_of_ble_eq_true rfl) d_L_make_5 ⟨Nat.le_of_ble_eq_true rfl, Nat.le_of_ble_eq_true rfl⟩ (fun ce q9 H locs hbad hP hD hS y1 y2 y3 => ?_) (fun r_9 u H locs hw hP hD hS => ?_)
  · replace hP : va_P (dC, dI) vwCl [(o0, .inl (cO, 1, .inr (.inl fo))), (h0, .inr (0, [.ref h1, .ref h2, .int (nI nn), .int (nI pp)])), (h1, .inl (cA, 512, .inl M)), (h2, .inl (cB, 512, .inl S))] H := hP
    replace hD : va_D A [(o0, .inl (cO, 1, .inr (.inl fo))), (h0, .inr (0, [.ref h1, .ref h2, .int (nI nn), .int (nI pp)])), (h1, .inl (cA, 512, .inl M)), (h2, .inl (cB, 512, .inl S))] := hD
    refine vx_catch (pc := 5) hown [] ⟨0, 10, 13, 18⟩ [] htab (fun z h => absurd h List.not_mem_nil) (by decide) (by decide) (hts _ wl_L_18) (va_Nw.use (zBad_on _ wzb_IOOBE) (hZ.2.1 _ wzb_IOOBE)) y1 y2 y3 ?_
    refine W.eq (g2 := F0 m 13 ls [.ref q9]) rfl ?_
    refine lv_astore (lv' := [(4, .ref q9), (0, .ref h0), (1, .int x), (2, .int z), (3, .ref o0)]) hx hb d_L_make_13 hl (by decide) rfl (fun ls hl => ?_)
    refine lv_iconst (v := nI 1) hx hb d_L_make_15 (by decide) ?_
    replace hP := hP.sub (ws' := [(h0, .inr (0, [.ref h1, .ref h2, .int (nI nn), .int (nI pp)])), (h1, .inl (cA, 512, .inl M)), (h2, .inl (cB, 512, .inl S)), (o0, .inl (cO, 1, .inr (.inl fo)))]) [1, 2, 3, 0] rfl
    replace hD := hD.sub (ws' := [(h0, .inr (0, [.ref h1, .ref h2, .int (nI nn), .int (nI pp)])), (h1, .inl (cA, 512, .inl M)), (h2, .inl (cB, 512, .inl S)), (o0, .inl (cO, 1, .inr (.inl fo)))]) [1, 2, 3, 0] (by decide) rfl
    refine W.widen (k := 2) (n := 12) (by decide) (by decide) ?_
    exact W.iret (v := nI 1) hx hb hr (fun t9 ht9 hW9 => ⟨⟨nI 1, ((nn, pp, M, S), fo), rfl, Or.inr ⟨rfl, hbad, rfl⟩, by rw [ht9]; exact hP, va_K.moved hW9.alike hK, hD⟩, hS.F ht9⟩) hS.2.2 d_L_make_16
  · replace hP : va_P (dC, dI) vwCl [(o0, .inl (cO, 1, .inr (.inl fo))), (h0, .inr (0, [.ref h1, .ref h2, .int (nI nn), .int (nI u.2.2)])), (h1, .inl (cA, 512, .inl u.1)), (h2, .inl (cB, 512, .inl u.2.1))] H := hP
    replace hD : va_D A [(o0, .inl (cO, 1, .inr (.inl fo))), (h0, .inr (0, [.ref h1, .ref h2, .int (nI nn), .int (nI u.2.2)])), (h1, .inl (cA, 512, .inl u.1)), (h2, .inl (cB, 512, .inl u.2.1))] := hD
    refine lv_i2l (v := r_9.toInt64) hx hb d_L_make_8 rfl ?_
    refine va_last hx hb hK hP hD hS 0 2 rfl rfl (vp_in_nI (by omega) (by decide)) d_L_make_9 (fun H locs hP hD hS => ?_)
    rw [nI_clamp (by omega)] at hP hD
    replace hP : va_P (dC, dI) vwCl [(o0, .inl (cO, 1, .inr (.inl (vp_updL fo 0 r_9.toInt64)))), (h0, .inr (0, [.ref h1, .ref h2, .int (nI nn), .int (nI u.2.2)])), (h1, .inl (cA, 512, .inl u.1)), (h2, .inl (cB, 512, .inl u.2.1))] H := hP
    replace hD : va_D A [(o0, .inl (cO, 1, .inr (.inl (vp_updL fo 0 r_9.toInt64)))), (h0, .inr (0, [.ref h1, .ref h2, .int (nI nn), .int (nI u.2.2)])), (h1, .inl (cA, 512, .inl u.1)), (h2, .inl (cB, 512, .inl u.2.1))] := hD
    refine lv_goto (tgt := 17) hx hb d_L_make_10 (by decide) ?_
    refine lv_iconst (v := nI 0) hx hb d_L_make_17 (by decide) ?_
    replace hP := hP.sub (ws' := [(h0, .inr (0, [.ref h1, .ref h2, .int (nI nn), .int (nI u.2.2)])), (h1, .inl (cA, 512, .inl u.1)), (h2, .inl (cB, 512, .inl u.2.1)), (o0, .inl (cO, 1, .inr (.inl (vp_updL fo 0 r_9.toInt64))))]) [1, 2, 3, 0] rfl
    replace hD := hD.sub (ws' := [(h0, .inr (0, [.ref h1, .ref h2, .int (nI nn), .int (nI u.2.2)])), (h1, .inl (cA, 512, .inl u.1)), (h2, .inl (cB, 512, .inl u.2.1)), (o0, .inl (cO, 1, .inr (.inl (vp_updL fo 0 r_9.toInt64))))]) [1, 2, 3, 0] (by decide) rfl
    refine W.widen (k := 2) (n := 12) (by decide) (by decide) ?_
    obtain ⟨a, b, k1, k2, k3, k4, k5, k6, k7⟩ := hw
    exact W.iret (v := nI 0) hx hb hr (fun t9 ht9 hW9 => ⟨⟨nI 0, ((nn, u.2.2, u.1, u.2.1), vp_updL fo 0 r_9.toInt64), rfl, Or.inl ⟨rfl, r_9, rfl, rfl, k6, a, b, k1, k2, k3, k4, k5, k7⟩, by rw [ht9]; exact hP, va_K.moved hW9.alike hK, hD⟩, hS.F ht9⟩) hS.2.2 d_L_make_18
set_option maxHeartbeats 4000000 in
set_option maxRecDepth 100000 in
/-- the law's own space -/
theorem cL_space (l : Launch) (hlt : l.stackTraces = false) (dC : Nat → ClassId) (dI : Nat → Nat → Nat) (h0 h1 h2 o0 : Nat) (cA cB cO : ClassId) (sz : Nat) (M S : Nat → Int32) (nn pp : Nat) (fo : Nat → Int64) (g0 : zCI nn pp M S) (x : Int32) : Met l y_L_space ws_L_space ({ frames := 7, cells := 1, slots := 6, locals := 112 }) (va_Pc [.ref h0, .int x, .ref o0] (cx_P (dC, dI) vwCl (wXO h0 h1 h2 o0 cA cB cO M S (nI nn) (nI pp) fo) (tXO cA cB cO) sz)) (va_Qi (S := (Nat × Nat × (Nat → Int32) × (Nat → Int32)) × (Nat → Int64)) (fun (r : Int32) (u : (Nat × Nat × (Nat → Int32) × (Nat → Int32)) × (Nat → Int64)) => (r = nI 0 ∧ ∃ rr : Int32, u.2 = vp_updL fo 0 rr.toInt64 ∧ x = nI u.1.1 ∧ 1 ≤ u.1.1 ∧ u.1.1 ≤ 16384 ∧ rr = nI nn ∧ u.1.2.1 = 1 ∧ zCI u.1.1 1 u.1.2.2.1 u.1.2.2.2 ∧ ∀ j, j < 16384 → zm u.1.2.2.1 j = decide (j = 0)) ∨ (r = nI 1 ∧ (¬ ∃ k, x = nI k ∧ 1 ≤ k ∧ k ≤ 16384) ∧ u = ((nn, pp, M, S), fo))) (fun u t => cc_B (dC, dI) vwCl (tXO cA cB cO) (va_A (wXO h0 h1 h2 o0 cA cB cO M S (nI nn) (nI pp) fo) sz) ((fun u : (Nat × Nat × (Nat → Int32) × (Nat → Int32)) × (Nat → Int64) => (wXO h0 h1 h2 o0 cA cB cO u.1.2.2.1 u.1.2.2.2 (nI u.1.1) (nI u.1.2.1) u.2)) u) t) (va_A (wXO h0 h1 h2 o0 cA cB cO M S (nI nn) (nI pp) fo) sz)) 1 6 (va_A (wXO h0 h1 h2 o0 cA cB cO M S (nI nn) (nI pp) fo) sz) := by
  refine va_MetW (cc := c_L_space) (maxL := 4) (ret := (some .int)) (hh := [(0, 9, 12, 13)]) (by decide) rfl ?_
  intro p e s m args below meth c s₁ B hml hv
  obtain ⟨rfl, ⟨hsz, hP, hK, hD0⟩, hZ⟩ := hv
  have hx := B.exec
  have hb := B.bytes
  have hr := B.returns
  have hts : ∀ w ∈ zAll, w.before _ s = true := fun w h => atoms_spec (ws := ws_L_space) B.pre w (List.mem_cons_of_mem _ h)
  have htab : c.exceptionTable.toList = tableOf [(0, 9, 12, 13)] := vx_table (x := y_L_space) B (atoms_spec (ws := ws_L_space) B.pre _ List.mem_cons_self)
  have hown : s.vm.findClass RL = some m.cls := findClass_of_methodNamed B.named
  have hlocks := B.notSynchronized
  subst hsz
  have hD := hD0.self (sz := s.heap.size)
  generalize hAe : va_A (wXO h0 h1 h2 o0 cA cB cO M S (nI nn) (nI pp) fo) s.heap.size = A at hD hZ ⊢
  have hA : ∀ q : Nat, s.heap.size ≤ q → A q := fun q h => by rw [← hAe]; exact Or.inr h
  have hS : va_S A s.heap s.heap [] := va_S.rf
  replace hP : va_P (dC, dI) vwCl [(h0, .inr (0, [.ref h1, .ref h2, .int (nI nn), .int (nI pp)])), (h1, .inl (cA, 512, .inl M)), (h2, .inl (cB, 512, .inl S)), (o0, .inl (cO, 1, .inr (.inl fo)))] s.heap := hP
  replace hD : va_D A [(h0, .inr (0, [.ref h1, .ref h2, .int (nI nn), .int (nI pp)])), (h1, .inl (cA, 512, .inl M)), (h2, .inl (cB, 512, .inl S)), (o0, .inl (cO, 1, .inr (.inl fo)))] := hD
  have hl := lv_entry ([.ref h0, .int x, .ref o0]) (n := 4) (Nat.le_of_ble_eq_true rfl)
  rw [lg_entry_eq]
  generalize (lg_sl ([.ref h0, .int x, .ref o0]) ++ List.replicate (4 - (lg_sl ([.ref h0, .int x, .ref o0])).length) Slot.unset).toArray = ls at hl ⊢
  replace hl : lv_has ls 4 [(0, .ref h0), (1, .int x), (2, .ref o0)] := hl
  refine lv_aload_n hx hb d_L_space_0 rfl (lv_at hl 2 rfl) ?_
  refine lv_iconst (v := nI 0) hx hb d_L_space_1 (by decide) ?_
  refine lv_aload_n hx hb d_L_space_2 rfl (lv_at hl 0 rfl) ?_
  refine lv_iload_n hx hb d_L_space_3 rfl (lv_at hl 1 rfl) ?_
  refine cx_Vi (wc := [(h0, .inr (0, [.ref h1, .ref h2, .int (nI nn), .int (nI pp)])), (h1, .inl (cA, 512, .inl M)), (h2, .inl (cB, 512, .inl S))]) (wr := [(o0, .inl (cO, 1, .inr (.inl fo)))]) (tys' := [(cA, .int), (cB, .int)]) ⟨hx, hb, hml, hown, hts⟩ hP hD hK hS hA hZ [0, 1, 2] [3] [0, 1] rfl rfl rfl (by decide) (by decide) (by decide) rfl (c_space l hlt dC dI h0 h1 h2 cA cB _ M S nn pp g0 x) (cwV 1 hts g_L_7 rfl rfl rfl (by decide +kernel) ⟨Nat.le_of_ble_eq_true rfl, Nat.le_of_ble_eq_true rfl⟩) 0 0 rfl rfl rfl rfl hl.1 rfl (Nat.le_of_ble_eq_true rfl) d_L_space_4 ⟨Nat.le_of_ble_eq_true rfl, Nat.le_of_ble_eq_true rfl⟩ (fun ce q9 H locs hbad hP hD hS y1 y2 y3 => ?_) (fun r_9 u H locs hw hP hD hS => ?_)
  · replace hP : va_P (dC, dI) vwCl [(o0, .inl (cO, 1, .inr (.inl fo))), (h0, .inr (0, [.ref h1, .ref h2, .int (nI nn), .int (nI pp)])), (h1, .inl (cA, 512, .inl M)), (h2, .inl (cB, 512, .inl S))] H := hP
    replace hD : va_D A [(o0, .inl (cO, 1, .inr (.inl fo))), (h0, .inr (0, [.ref h1, .ref h2, .int (nI nn), .int (nI pp)])), (h1, .inl (cA, 512, .inl M)), (h2, .inl (cB, 512, .inl S))] := hD
    refine vx_catch (pc := 4) hown [] ⟨0, 9, 12, 13⟩ [] htab (fun z h => absurd h List.not_mem_nil) (by decide) (by decide) (hts _ wl_L_13) (va_Nw.use (zBad_on _ wzb_IAE) (hZ.2.1 _ wzb_IAE)) y1 y2 y3 ?_
    refine W.eq (g2 := F0 m 12 ls [.ref q9]) rfl ?_
    refine lv_astore_n (lv' := [(3, .ref q9), (0, .ref h0), (1, .int x), (2, .ref o0)]) hx hb d_L_space_12 rfl hl (by decide) rfl (fun ls hl => ?_)
    refine lv_iconst (v := nI 1) hx hb d_L_space_13 (by decide) ?_
    replace hP := hP.sub (ws' := [(h0, .inr (0, [.ref h1, .ref h2, .int (nI nn), .int (nI pp)])), (h1, .inl (cA, 512, .inl M)), (h2, .inl (cB, 512, .inl S)), (o0, .inl (cO, 1, .inr (.inl fo)))]) [1, 2, 3, 0] rfl
    replace hD := hD.sub (ws' := [(h0, .inr (0, [.ref h1, .ref h2, .int (nI nn), .int (nI pp)])), (h1, .inl (cA, 512, .inl M)), (h2, .inl (cB, 512, .inl S)), (o0, .inl (cO, 1, .inr (.inl fo)))]) [1, 2, 3, 0] (by decide) rfl
    refine W.widen (k := 1) (n := 6) (by decide) (by decide) ?_
    exact W.iret (v := nI 1) hx hb hr (fun t9 ht9 hW9 => ⟨⟨nI 1, ((nn, pp, M, S), fo), rfl, Or.inr ⟨rfl, hbad, rfl⟩, by rw [ht9]; exact hP, va_K.moved hW9.alike hK, hD⟩, hS.F ht9⟩) hS.2.2 d_L_space_14
  · replace hP : va_P (dC, dI) vwCl [(o0, .inl (cO, 1, .inr (.inl fo))), (h0, .inr (0, [.ref h1, .ref h2, .int (nI u.1), .int (nI 1)])), (h1, .inl (cA, 512, .inl u.2.1)), (h2, .inl (cB, 512, .inl u.2.2))] H := hP
    replace hD : va_D A [(o0, .inl (cO, 1, .inr (.inl fo))), (h0, .inr (0, [.ref h1, .ref h2, .int (nI u.1), .int (nI 1)])), (h1, .inl (cA, 512, .inl u.2.1)), (h2, .inl (cB, 512, .inl u.2.2))] := hD
    refine lv_i2l (v := r_9.toInt64) hx hb d_L_space_7 rfl ?_
    refine va_last hx hb hK hP hD hS 0 2 rfl rfl (vp_in_nI (by omega) (by decide)) d_L_space_8 (fun H locs hP hD hS => ?_)
    rw [nI_clamp (by omega)] at hP hD
    replace hP : va_P (dC, dI) vwCl [(o0, .inl (cO, 1, .inr (.inl (vp_updL fo 0 r_9.toInt64)))), (h0, .inr (0, [.ref h1, .ref h2, .int (nI u.1), .int (nI 1)])), (h1, .inl (cA, 512, .inl u.2.1)), (h2, .inl (cB, 512, .inl u.2.2))] H := hP
    replace hD : va_D A [(o0, .inl (cO, 1, .inr (.inl (vp_updL fo 0 r_9.toInt64)))), (h0, .inr (0, [.ref h1, .ref h2, .int (nI u.1), .int (nI 1)])), (h1, .inl (cA, 512, .inl u.2.1)), (h2, .inl (cB, 512, .inl u.2.2))] := hD
    refine lv_goto (tgt := 15) hx hb d_L_space_9 (by decide) ?_
    refine lv_iconst (v := nI 0) hx hb d_L_space_15 (by decide) ?_
    replace hP := hP.sub (ws' := [(h0, .inr (0, [.ref h1, .ref h2, .int (nI u.1), .int (nI 1)])), (h1, .inl (cA, 512, .inl u.2.1)), (h2, .inl (cB, 512, .inl u.2.2)), (o0, .inl (cO, 1, .inr (.inl (vp_updL fo 0 r_9.toInt64))))]) [1, 2, 3, 0] rfl
    replace hD := hD.sub (ws' := [(h0, .inr (0, [.ref h1, .ref h2, .int (nI u.1), .int (nI 1)])), (h1, .inl (cA, 512, .inl u.2.1)), (h2, .inl (cB, 512, .inl u.2.2)), (o0, .inl (cO, 1, .inr (.inl (vp_updL fo 0 r_9.toInt64))))]) [1, 2, 3, 0] (by decide) rfl
    refine W.widen (k := 1) (n := 6) (by decide) (by decide) ?_
    obtain ⟨k1, k2, k3, k4, k5, k6⟩ := hw
    exact W.iret (v := nI 0) hx hb hr (fun t9 ht9 hW9 => ⟨⟨nI 0, ((u.1, 1, u.2.1, u.2.2), vp_updL fo 0 r_9.toInt64), rfl, Or.inl ⟨rfl, r_9, rfl, k1, k2, k3, k4, rfl, k5, k6⟩, by rw [ht9]; exact hP, va_K.moved hW9.alike hK, hD⟩, hS.F ht9⟩) hS.2.2 d_L_space_16
