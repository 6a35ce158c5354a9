set_option maxHeartbeats 4000000 in
set_option maxRecDepth 100000 in
/-- thrown() -/
theorem cM_thrown (l : Launch) (dC : Nat → ClassId) (dI : Nat → Nat → Nat) (h0 h1 : Nat) (cA : ClassId) (sz : Nat) (F : Nat → Int32) (G : Nat → Bool) (nn : Nat) (th : Int32) (hF : MF F G)  : Met l y_M_thrown ws_M_thrown ({ frames := 0, cells := 0, slots := 0, locals := 0 }) (va_Pc [.ref h0] (cc_P (dC, dI) vwCl (wM h0 h1 cA th (nI nn) F) (tM cA) sz)) (va_Qi (S := Unit) (fun (r : Int32) (u : Unit) => r = th) (fun u t => cc_B (dC, dI) vwCl (tM cA) (va_A (wM h0 h1 cA th (nI nn) F) sz) ((fun _ : Unit => (wM h0 h1 cA th (nI nn) F)) u) t) (va_A (wM h0 h1 cA th (nI nn) F) sz)) 0 0 (va_A (wM h0 h1 cA th (nI nn) F) sz) := by
  refine Met.ofW (cc := c_M_thrown) (maxL := 1) (ret := (some .int)) (by decide) rfl ?_
  intro p e s m args below meth c s₁ B hml hv
  obtain ⟨rfl, hsz, hP, hK, hD0⟩ := hv
  have hx := B.exec
  have hb := B.bytes
  have hr := B.returns
  have hts : ∀ w ∈ zAll, w.before _ s = true := fun w h => atoms_spec (ws := ws_M_thrown) B.pre w (List.mem_cons_of_mem _ h)
  have hown : s.vm.findClass RM = some m.cls := findClass_of_methodNamed B.named
  have hlocks := B.notSynchronized
  subst hsz
  have hD := hD0.self (sz := s.heap.size)
  generalize hAe : va_A (wM h0 h1 cA th (nI nn) F) s.heap.size = A at hD ⊢
  have hA : ∀ q : Nat, s.heap.size ≤ q → A q := fun q h => by rw [← hAe]; exact Or.inr h
  have hS : va_S A s.heap s.heap [] := va_S.rf
  replace hP : va_P (dC, dI) vwCl [(h0, .inr (1, [.int th, .int (nI nn), .ref h1])), (h1, .inl (cA, 16385, .inl F))] s.heap := hP
  replace hD : va_D A [(h0, .inr (1, [.int th, .int (nI nn), .ref h1])), (h1, .inl (cA, 16385, .inl F))] := hD
  have hl := lv_entry ([.ref h0]) (n := 1) (Nat.le_of_ble_eq_true rfl)
  rw [lg_entry_eq]
  generalize (lg_sl ([.ref h0]) ++ List.replicate (1 - (lg_sl ([.ref h0])).length) Slot.unset).toArray = ls at hl ⊢
  replace hl : lv_has ls 1 [(0, .ref h0)] := hl
  refine lv_aload_n hx hb d_M_thrown_0 rfl (lv_at hl 0 rfl) ?_
  refine va_get (D := (dC, dI)) (ci := 1) (v := .int th) (C := RM) (T := TM) (N := 3) hx hb hts inM hown hK hP 0 rfl rfl 0 (by decide) (hts _ wl_M_17) (fun _ h9 => h9) rfl d_M_thrown_1 ?_
  exact W.iret (v := th) hx hb hr (fun t9 ht9 hW9 => ⟨⟨th, (), rfl, rfl, by rw [ht9]; exact hP, va_K.moved hW9.alike hK, hD⟩, hS.F ht9⟩) hS.2.2 d_M_thrown_4
set_option maxHeartbeats 4000000 in
set_option maxRecDepth 100000 in
/-- cards() -/
theorem cM_cards (l : Launch) (dC : Nat → ClassId) (dI : Nat → Nat → Nat) (h0 h1 : Nat) (cA : ClassId) (sz : Nat) (F : Nat → Int32) (G : Nat → Bool) (nn : Nat) (th : Int32) (hF : MF F G) (g1 : nn ≤ 16384) : Met l y_M_cards ws_M_cards ({ frames := 0, cells := 0, slots := 0, locals := 0 }) (va_Pc [.ref h0] (cc_P (dC, dI) vwCl (wM h0 h1 cA th (nI nn) F) (tM cA) sz)) (va_Qi (S := Unit) (fun (r : Int32) (u : Unit) => r = nI ((nn + 31) / 32)) (fun u t => cc_B (dC, dI) vwCl (tM cA) (va_A (wM h0 h1 cA th (nI nn) F) sz) ((fun _ : Unit => (wM h0 h1 cA th (nI nn) F)) u) t) (va_A (wM h0 h1 cA th (nI nn) F) sz)) 0 0 (va_A (wM h0 h1 cA th (nI nn) F) sz) := by
  refine Met.ofW (cc := c_M_cards) (maxL := 1) (ret := (some .int)) (by decide) rfl ?_
  intro p e s m args below meth c s₁ B hml hv
  obtain ⟨rfl, hsz, hP, hK, hD0⟩ := hv
  have hx := B.exec
  have hb := B.bytes
  have hr := B.returns
  have hts : ∀ w ∈ zAll, w.before _ s = true := fun w h => atoms_spec (ws := ws_M_cards) B.pre w (List.mem_cons_of_mem _ h)
  have hown : s.vm.findClass RM = some m.cls := findClass_of_methodNamed B.named
  have hlocks := B.notSynchronized
  subst hsz
  have hD := hD0.self (sz := s.heap.size)
  generalize hAe : va_A (wM h0 h1 cA th (nI nn) F) s.heap.size = A at hD ⊢
  have hA : ∀ q : Nat, s.heap.size ≤ q → A q := fun q h => by rw [← hAe]; exact Or.inr h
  have hS : va_S A s.heap s.heap [] := va_S.rf
  replace hP : va_P (dC, dI) vwCl [(h0, .inr (1, [.int th, .int (nI nn), .ref h1])), (h1, .inl (cA, 16385, .inl F))] s.heap := hP
  replace hD : va_D A [(h0, .inr (1, [.int th, .int (nI nn), .ref h1])), (h1, .inl (cA, 16385, .inl F))] := hD
  have hl := lv_entry ([.ref h0]) (n := 1) (Nat.le_of_ble_eq_true rfl)
  rw [lg_entry_eq]
  generalize (lg_sl ([.ref h0]) ++ List.replicate (1 - (lg_sl ([.ref h0])).length) Slot.unset).toArray = ls at hl ⊢
  replace hl : lv_has ls 1 [(0, .ref h0)] := hl
  refine lv_aload_n hx hb d_M_cards_0 rfl (lv_at hl 0 rfl) ?_
  refine va_get (D := (dC, dI)) (ci := 1) (v := .int (nI nn)) (C := RM) (T := TM) (N := 3) hx hb hts inM hown hK hP 0 rfl rfl 1 (by decide) (hts _ wl_M_7) (fun _ h9 => h9) rfl d_M_cards_1 ?_
  refine lv_bipush (v := nI 31) hx hb d_M_cards_4 (by decide) ?_
  refine lv_iadd hx hb d_M_cards_6 ?_
  refine lv_topi (nm_r (show _ = nI (nn + 31) from nI_add _ _) ?_)
  refine lv_bipush (v := nI 32) hx hb d_M_cards_7 (by decide) ?_
  refine lv_idiv hx hb d_M_cards_9 (by decide) ?_
  refine lv_topi (nm_r (show _ = nI ((nn + 31) / 32) from pk_div (by omega) (by omega) (by omega)) ?_)
  exact W.iret (v := nI ((nn + 31) / 32)) hx hb hr (fun t9 ht9 hW9 => ⟨⟨nI ((nn + 31) / 32), (), rfl, rfl, by rw [ht9]; exact hP, va_K.moved hW9.alike hK, hD⟩, hS.F ht9⟩) hS.2.2 d_M_cards_10
set_option maxHeartbeats 4000000 in
set_option maxRecDepth 100000 in
/-- goes(b) -/
theorem cM_goes (l : Launch) (dC : Nat → ClassId) (dI : Nat → Nat → Nat) (h0 h1 : Nat) (cA : ClassId) (sz : Nat) (F : Nat → Int32) (G : Nat → Bool) (nn : Nat) (th : Int32) (hF : MF F G) (b : Bool) : Met l y_M_goes ws_M_goes ({ frames := 0, cells := 0, slots := 0, locals := 0 }) (va_Pc [.ref h0, .int (zv b)] (cc_P (dC, dI) vwCl (wM h0 h1 cA th (nI nn) F) (tM cA) sz)) (va_Qi (S := Unit) (fun (r : Int32) (u : Unit) => r = zv b) (fun u t => cc_B (dC, dI) vwCl (tM cA) (va_A (wM h0 h1 cA th (nI nn) F) sz) ((fun _ : Unit => (wM h0 h1 cA (zv (!b)) (nI nn) F)) u) t) (va_A (wM h0 h1 cA th (nI nn) F) sz)) 0 0 (va_A (wM h0 h1 cA th (nI nn) F) sz) := by
  refine Met.ofW (cc := c_M_goes) (maxL := 2) (ret := (some .boolean)) (by decide) rfl ?_
  intro p e s m args below meth c s₁ B hml hv
  obtain ⟨rfl, hsz, hP, hK, hD0⟩ := hv
  have hx := B.exec
  have hb := B.bytes
  have hr := B.returns
  have hts : ∀ w ∈ zAll, w.before _ s = true := fun w h => atoms_spec (ws := ws_M_goes) B.pre w (List.mem_cons_of_mem _ h)
  have hown : s.vm.findClass RM = some m.cls := findClass_of_methodNamed B.named
  have hlocks := B.notSynchronized
  subst hsz
  have hD := hD0.self (sz := s.heap.size)
  generalize hAe : va_A (wM h0 h1 cA th (nI nn) F) s.heap.size = A at hD ⊢
  have hA : ∀ q : Nat, s.heap.size ≤ q → A q := fun q h => by rw [← hAe]; exact Or.inr h
  have hS : va_S A s.heap s.heap [] := va_S.rf
  replace hP : va_P (dC, dI) vwCl [(h0, .inr (1, [.int th, .int (nI nn), .ref h1])), (h1, .inl (cA, 16385, .inl F))] s.heap := hP
  replace hD : va_D A [(h0, .inr (1, [.int th, .int (nI nn), .ref h1])), (h1, .inl (cA, 16385, .inl F))] := hD
  have hl := lv_entry ([.ref h0, .int (zv b)]) (n := 2) (Nat.le_of_ble_eq_true rfl)
  rw [lg_entry_eq]
  generalize (lg_sl ([.ref h0, .int (zv b)]) ++ List.replicate (2 - (lg_sl ([.ref h0, .int (zv b)])).length) Slot.unset).toArray = ls at hl ⊢
  replace hl : lv_has ls 2 [(0, .ref h0), (1, .int (zv b))] := hl
  refine lv_aload_n hx hb d_M_goes_0 rfl (lv_at hl 0 rfl) ?_
  refine lv_iload_n hx hb d_M_goes_1 rfl (lv_at hl 1 rfl) ?_
  refine lv_if_eq (tgt := 9) hx hb d_M_goes_2 (by decide) (fun c1 => ?_) (fun c1 => ?_)
  · have eb : b = false := zv_f c1
    subst eb
    refine lv_iconst (v := nI 1) hx hb d_M_goes_9 (by decide) ?_
    refine va_put (D := (dC, dI)) (ci := 1) (v := .int (nI 1)) (ty := .int) (C := RM) (T := TM) (N := 3) hx hb hts inM tyM tyM_ok nmM hown hK hP hD hS 0 rfl rfl 0 (by decide) (hts _ wl_M_17) (fun _ h9 => h9) rfl (by decide +kernel) rfl rfl (Nat.le_of_ble_eq_true rfl) d_M_goes_10 (fun H locs hP hD hS => ?_)
    replace hP : va_P (dC, dI) vwCl [(h0, .inr (1, [.int (nI 1), .int (nI nn), .ref h1])), (h1, .inl (cA, 16385, .inl F))] H := hP
    replace hD : va_D A [(h0, .inr (1, [.int (nI 1), .int (nI nn), .ref h1])), (h1, .inl (cA, 16385, .inl F))] := hD
    refine lv_iload_n hx hb d_M_goes_13 rfl (lv_at hl 1 rfl) ?_
    exact W.zret (v := zv false) hx hb hr rfl (fun t9 ht9 hW9 => ⟨⟨zv false, (), rfl, rfl, by rw [ht9]; exact hP, va_K.moved hW9.alike hK, hD⟩, hS.F ht9⟩) hS.2.2 d_M_goes_14
  · have eb : b = true := zv_t c1
    subst eb
    refine lv_iconst (v := nI 0) hx hb d_M_goes_5 (by decide) ?_
    refine lv_goto (tgt := 10) hx hb d_M_goes_6 (by decide) ?_
    refine va_put (D := (dC, dI)) (ci := 1) (v := .int (nI 0)) (ty := .int) (C := RM) (T := TM) (N := 3) hx hb hts inM tyM tyM_ok nmM hown hK hP hD hS 0 rfl rfl 0 (by decide) (hts _ wl_M_17) (fun _ h9 => h9) rfl (by decide +kernel) rfl rfl (Nat.le_of_ble_eq_true rfl) d_M_goes_10 (fun H locs hP hD hS => ?_)
    replace hP : va_P (dC, dI) vwCl [(h0, .inr (1, [.int (nI 0), .int (nI nn), .ref h1])), (h1, .inl (cA, 16385, .inl F))] H := hP
    replace hD : va_D A [(h0, .inr (1, [.int (nI 0), .int (nI nn), .ref h1])), (h1, .inl (cA, 16385, .inl F))] := hD
    refine lv_iload_n hx hb d_M_goes_13 rfl (lv_at hl 1 rfl) ?_
    exact W.zret (v := zv true) hx hb hr rfl (fun t9 ht9 hW9 => ⟨⟨zv true, (), rfl, rfl, by rw [ht9]; exact hP, va_K.moved hW9.alike hK, hD⟩, hS.F ht9⟩) hS.2.2 d_M_goes_14
set_option maxHeartbeats 4000000 in
set_option maxRecDepth 100000 in
/-- M_isCell -/
theorem cM_isCell (l : Launch) (dC : Nat → ClassId) (dI : Nat → Nat → Nat) (h0 h1 : Nat) (cA : ClassId) (sz : Nat) (F : Nat → Int32) (G : Nat → Bool) (nn : Nat) (th : Int32) (hF : MF F G) (x : Int32) (g1 : nn ≤ 16384) : Met l y_M_isCell ws_M_isCell ({ frames := 0, cells := 0, slots := 0, locals := 0 }) (va_Pc [.ref h0, .int x] (cc_P (dC, dI) vwCl (wM h0 h1 cA th (nI nn) F) (tM cA) sz)) (va_Qi (S := Bool) (fun (r : Int32) (u : Bool) => r = zv u ∧ (u = true → ∃ k, k < nn ∧ x = nI k) ∧ (u = false → ¬ ∃ k, k < nn ∧ x = nI k)) (fun u t => cc_B (dC, dI) vwCl (tM cA) (va_A (wM h0 h1 cA th (nI nn) F) sz) ((fun _ : Bool => (wM h0 h1 cA th (nI nn) F)) u) t) (va_A (wM h0 h1 cA th (nI nn) F) sz)) 0 0 (va_A (wM h0 h1 cA th (nI nn) F) sz) := by
  refine Met.ofW (cc := c_M_isCell) (maxL := 2) (ret := (some .boolean)) (by decide) rfl ?_
  intro p e s m args below meth c s₁ B hml hv
  obtain ⟨rfl, hsz, hP, hK, hD0⟩ := hv
  have hx := B.exec
  have hb := B.bytes
  have hr := B.returns
  have hts : ∀ w ∈ zAll, w.before _ s = true := fun w h => atoms_spec (ws := ws_M_isCell) B.pre w (List.mem_cons_of_mem _ h)
  have hown : s.vm.findClass RM = some m.cls := findClass_of_methodNamed B.named
  have hlocks := B.notSynchronized
  subst hsz
  have hD := hD0.self (sz := s.heap.size)
  generalize hAe : va_A (wM h0 h1 cA th (nI nn) F) s.heap.size = A at hD ⊢
  have hA : ∀ q : Nat, s.heap.size ≤ q → A q := fun q h => by rw [← hAe]; exact Or.inr h
  have hS : va_S A s.heap s.heap [] := va_S.rf
  replace hP : va_P (dC, dI) vwCl [(h0, .inr (1, [.int th, .int (nI nn), .ref h1])), (h1, .inl (cA, 16385, .inl F))] s.heap := hP
  replace hD : va_D A [(h0, .inr (1, [.int th, .int (nI nn), .ref h1])), (h1, .inl (cA, 16385, .inl F))] := hD
  have hl := lv_entry ([.ref h0, .int x]) (n := 2) (Nat.le_of_ble_eq_true rfl)
  rw [lg_entry_eq]
  generalize (lg_sl ([.ref h0, .int x]) ++ List.replicate (2 - (lg_sl ([.ref h0, .int x])).length) Slot.unset).toArray = ls at hl ⊢
  replace hl : lv_has ls 2 [(0, .ref h0), (1, .int x)] := hl
  refine lv_iload_n hx hb d_M_isCell_0 rfl (lv_at hl 1 rfl) ?_
  refine lv_if_lt (tgt := 16) hx hb d_M_isCell_1 (by decide) (fun c1 => ?_) (fun c1 => ?_)
  · refine lv_iconst (v := nI 0) hx hb d_M_isCell_16 (by decide) ?_
    exact W.zret (v := nI 0) hx hb hr rfl (fun t9 ht9 hW9 => ⟨⟨nI 0, false, rfl, ⟨rfl, fun h => (by cases h), fun _ ⟨k, k1, k2⟩ => nI_pos (n := k) (by omega) (by rw [← k2]; exact c1)⟩, by rw [ht9]; exact hP, va_K.moved hW9.alike hK, hD⟩, hS.F ht9⟩) hS.2.2 d_M_isCell_17
  · refine lv_iload_n hx hb d_M_isCell_4 rfl (lv_at hl 1 rfl) ?_
    refine lv_aload_n hx hb d_M_isCell_5 rfl (lv_at hl 0 rfl) ?_
    refine va_get (D := (dC, dI)) (ci := 1) (v := .int (nI nn)) (C := RM) (T := TM) (N := 3) hx hb hts inM hown hK hP 0 rfl rfl 1 (by decide) (hts _ wl_M_7) (fun _ h9 => h9) rfl d_M_isCell_6 ?_
    refine lv_icmp_ge (tgt := 16) hx hb d_M_isCell_9 (by decide) (fun c2 => ?_) (fun c2 => ?_)
    · refine lv_iconst (v := nI 0) hx hb d_M_isCell_16 (by decide) ?_
      exact W.zret (v := nI 0) hx hb hr rfl (fun t9 ht9 hW9 => ⟨⟨nI 0, false, rfl, ⟨rfl, fun h => (by cases h), fun _ ⟨k, k1, k2⟩ => nI_ge (a := k) (b := nn) k1 (by omega) (by rw [← k2]; exact c2)⟩, by rw [ht9]; exact hP, va_K.moved hW9.alike hK, hD⟩, hS.F ht9⟩) hS.2.2 d_M_isCell_17
    · refine lv_iconst (v := nI 1) hx hb d_M_isCell_12 (by decide) ?_
      refine lv_goto (tgt := 17) hx hb d_M_isCell_13 (by decide) ?_
      exact W.zret (v := nI 1) hx hb hr rfl (fun t9 ht9 hW9 => ⟨⟨nI 1, true, rfl, ⟨rfl, fun _ => z_inof2 c1 c2 (by omega), fun h => (by cases h)⟩, by rw [ht9]; exact hP, va_K.moved hW9.alike hK, hD⟩, hS.F ht9⟩) hS.2.2 d_M_isCell_17
set_option maxHeartbeats 4000000 in
set_option maxRecDepth 100000 in
/-- M_isCard -/
theorem cM_isCard (l : Launch) (dC : Nat → ClassId) (dI : Nat → Nat → Nat) (h0 h1 : Nat) (cA : ClassId) (sz : Nat) (F : Nat → Int32) (G : Nat → Bool) (nn : Nat) (th : Int32) (hF : MF F G) (x : Int32) (g1 : nn ≤ 16384) : Met l y_M_isCard ws_M_isCard ({ frames := 1, cells := 0, slots := 0, locals := 20 }) (va_Pc [.ref h0, .int x] (cc_P (dC, dI) vwCl (wM h0 h1 cA th (nI nn) F) (tM cA) sz)) (va_Qi (S := Bool) (fun (r : Int32) (u : Bool) => r = zv u ∧ (u = true → ∃ k, k < (nn + 31) / 32 ∧ x = nI k) ∧ (u = false → ¬ ∃ k, k < (nn + 31) / 32 ∧ x = nI k)) (fun u t => cc_B (dC, dI) vwCl (tM cA) (va_A (wM h0 h1 cA th (nI nn) F) sz) ((fun _ : Bool => (wM h0 h1 cA th (nI nn) F)) u) t) (va_A (wM h0 h1 cA th (nI nn) F) sz)) 0 0 (va_A (wM h0 h1 cA th (nI nn) F) sz) := by
  refine Met.ofW (cc := c_M_isCard) (maxL := 2) (ret := (some .boolean)) (by decide) rfl ?_
  intro p e s m args below meth c s₁ B hml hv
  obtain ⟨rfl, hsz, hP, hK, hD0⟩ := hv
  have hx := B.exec
  have hb := B.bytes
  have hr := B.returns
  have hts : ∀ w ∈ zAll, w.before _ s = true := fun w h => atoms_spec (ws := ws_M_isCard) B.pre w (List.mem_cons_of_mem _ h)
  have hown : s.vm.findClass RM = some m.cls := findClass_of_methodNamed B.named
  have hlocks := B.notSynchronized
  subst hsz
  have hD := hD0.self (sz := s.heap.size)
  generalize hAe : va_A (wM h0 h1 cA th (nI nn) F) s.heap.size = A at hD ⊢
  have hA : ∀ q : Nat, s.heap.size ≤ q → A q := fun q h => by rw [← hAe]; exact Or.inr h
  have hS : va_S A s.heap s.heap [] := va_S.rf
  replace hP : va_P (dC, dI) vwCl [(h0, .inr (1, [.int th, .int (nI nn), .ref h1])), (h1, .inl (cA, 16385, .inl F))] s.heap := hP
  replace hD : va_D A [(h0, .inr (1, [.int th, .int (nI nn), .ref h1])), (h1, .inl (cA, 16385, .inl F))] := hD
  have hl := lv_entry ([.ref h0, .int x]) (n := 2) (Nat.le_of_ble_eq_true rfl)
  rw [lg_entry_eq]
  generalize (lg_sl ([.ref h0, .int x]) ++ List.replicate (2 - (lg_sl ([.ref h0, .int x])).length) Slot.unset).toArray = ls at hl ⊢
  replace hl : lv_has ls 2 [(0, .ref h0), (1, .int x)] := hl
  refine lv_iload_n hx hb d_M_isCard_0 rfl (lv_at hl 1 rfl) ?_
  refine lv_if_lt (tgt := 16) hx hb d_M_isCard_1 (by decide) (fun c1 => ?_) (fun c1 => ?_)
  · refine lv_iconst (v := nI 0) hx hb d_M_isCard_16 (by decide) ?_
    exact W.zret (v := nI 0) hx hb hr rfl (fun t9 ht9 hW9 => ⟨⟨nI 0, false, rfl, ⟨rfl, fun h => (by cases h), fun _ ⟨k, k1, k2⟩ => nI_pos (n := k) (by omega) (by rw [← k2]; exact c1)⟩, by rw [ht9]; exact hP, va_K.moved hW9.alike hK, hD⟩, hS.F ht9⟩) hS.2.2 d_M_isCard_17
  · refine lv_iload_n hx hb d_M_isCard_4 rfl (lv_at hl 1 rfl) ?_
    refine lv_aload_n hx hb d_M_isCard_5 rfl (lv_at hl 0 rfl) ?_
    refine cc_Vi (wc := [(h0, .inr (1, [.int th, .int (nI nn), .ref h1])), (h1, .inl (cA, 16385, .inl F))]) (wr := []) (tys' := [(cA, .boolean)]) ⟨hx, hb, hml, hown, hts⟩ hP hD hK hS hA [0, 1] [] [0] rfl rfl rfl (by decide) (by decide) (by decide) rfl (cM_cards l dC dI h0 h1 cA _ F G nn th hF g1) (cwV 0 hts g_M_20 rfl rfl rfl (by decide +kernel) ⟨Nat.le_of_ble_eq_true rfl, Nat.le_of_ble_eq_true rfl⟩) 0 1 rfl rfl rfl rfl hl.1 rfl (Nat.le_of_ble_eq_true rfl) d_M_isCard_6 ⟨Nat.le_of_ble_eq_true rfl, Nat.le_of_ble_eq_true rfl⟩ (fun r_9 u H locs hw hP hD hS => ?_)
    replace hP : va_P (dC, dI) vwCl [(h0, .inr (1, [.int th, .int (nI nn), .ref h1])), (h1, .inl (cA, 16385, .inl F))] H := hP
    replace hD : va_D A [(h0, .inr (1, [.int th, .int (nI nn), .ref h1])), (h1, .inl (cA, 16385, .inl F))] := hD
    subst hw
    refine lv_icmp_ge (tgt := 16) hx hb d_M_isCard_9 (by decide) (fun c2 => ?_) (fun c2 => ?_)
    · refine lv_iconst (v := nI 0) hx hb d_M_isCard_16 (by decide) ?_
      exact W.zret (v := nI 0) hx hb hr rfl (fun t9 ht9 hW9 => ⟨⟨nI 0, false, rfl, ⟨rfl, fun h => (by cases h), fun _ ⟨k, k1, k2⟩ => nI_ge (a := k) (b := (nn + 31) / 32) k1 (by omega) (by rw [← k2]; exact c2)⟩, by rw [ht9]; exact hP, va_K.moved hW9.alike hK, hD⟩, hS.F ht9⟩) hS.2.2 d_M_isCard_17
    · refine lv_iconst (v := nI 1) hx hb d_M_isCard_12 (by decide) ?_
      refine lv_goto (tgt := 17) hx hb d_M_isCard_13 (by decide) ?_
      exact W.zret (v := nI 1) hx hb hr rfl (fun t9 ht9 hW9 => ⟨⟨nI 1, true, rfl, ⟨rfl, fun _ => z_inof2 c1 c2 (by omega), fun h => (by cases h)⟩, by rw [ht9]; exact hP, va_K.moved hW9.alike hK, hD⟩, hS.F ht9⟩) hS.2.2 d_M_isCard_17
set_option maxHeartbeats 4000000 in
set_option maxRecDepth 100000 in
/-- from(k) -/
theorem cM_from (l : Launch) (dC : Nat → ClassId) (dI : Nat → Nat → Nat) (h0 h1 : Nat) (cA : ClassId) (sz : Nat) (F : Nat → Int32) (G : Nat → Bool) (nn : Nat) (th : Int32) (hF : MF F G) (k : Nat) (g0 : k < 16385) (g1 : G 0 = true) : Met l y_M_from ws_M_from ({ frames := 0, cells := 0, slots := 0, locals := 0 }) (va_Pc [.ref h0, .int (nI k)] (cc_P (dC, dI) vwCl (wM h0 h1 cA th (nI nn) F) (tM cA) sz)) (va_Qi (S := Unit) (fun (r : Int32) (u : Unit) => r = nI (zb G k)) (fun u t => cc_B (dC, dI) vwCl (tM cA) (va_A (wM h0 h1 cA th (nI nn) F) sz) ((fun _ : Unit => (wM h0 h1 cA th (nI nn) F)) u) t) (va_A (wM h0 h1 cA th (nI nn) F) sz)) 0 0 (va_A (wM h0 h1 cA th (nI nn) F) sz) := by
  refine Met.ofW (cc := c_M_from) (maxL := 3) (ret := (some .int)) (by decide) rfl ?_
  intro p e s m args below meth c s₁ B hml hv
  obtain ⟨rfl, hsz, hP, hK, hD0⟩ := hv
  have hx := B.exec
  have hb := B.bytes
  have hr := B.returns
  have hts : ∀ w ∈ zAll, w.before _ s = true := fun w h => atoms_spec (ws := ws_M_from) B.pre w (List.mem_cons_of_mem _ h)
  have hown : s.vm.findClass RM = some m.cls := findClass_of_methodNamed B.named
  have hlocks := B.notSynchronized
  subst hsz
  have hD := hD0.self (sz := s.heap.size)
  generalize hAe : va_A (wM h0 h1 cA th (nI nn) F) s.heap.size = A at hD ⊢
  have hA : ∀ q : Nat, s.heap.size ≤ q → A q := fun q h => by rw [← hAe]; exact Or.inr h
  have hS : va_S A s.heap s.heap [] := va_S.rf
  replace hP : va_P (dC, dI) vwCl [(h0, .inr (1, [.int th, .int (nI nn), .ref h1])), (h1, .inl (cA, 16385, .inl F))] s.heap := hP
  replace hD : va_D A [(h0, .inr (1, [.int th, .int (nI nn), .ref h1])), (h1, .inl (cA, 16385, .inl F))] := hD
  have hl := lv_entry ([.ref h0, .int (nI k)]) (n := 3) (Nat.le_of_ble_eq_true rfl)
  rw [lg_entry_eq]
  generalize (lg_sl ([.ref h0, .int (nI k)]) ++ List.replicate (3 - (lg_sl ([.ref h0, .int (nI k)])).length) Slot.unset).toArray = ls at hl ⊢
  replace hl : lv_has ls 3 [(0, .ref h0), (1, .int (nI k))] := hl
  refine lv_iload_n hx hb d_M_from_0 rfl (lv_at hl 1 rfl) ?_
  refine lv_istore_n (lv' := [(2, .int (nI k)), (0, .ref h0), (1, .int (nI k))]) hx hb d_M_from_1 rfl hl (by decide) rfl (fun ls hl => ?_)
  refine cc_from hP hD hS (fun H locs hP hD hS => ?_)
  obtain ⟨ci, e_ci⟩ : ∃ ci : Nat, ci = k := ⟨_, rfl⟩
  replace hl : lv_has ls 3 [(0, .ref h0), (1, .int (nI k)), (2, .int (nI ci))] := by (subst e_ci; exact lv_sub hl [1, 2, 0] rfl)
  have k1 : ci ≤ k := by (subst e_ci; exact Nat.le_refl _)
  have k2 : ∀ j, ci < j → j ≤ k → G j = false := by (subst e_ci; exact fun j a b => absurd a (by omega))
  clear e_ci
  obtain ⟨f9, hf9⟩ : ∃ f9 : Nat, ci < f9 := ⟨_, Nat.lt_succ_self _⟩
  induction f9 generalizing ls H locs ci with
  | zero => exact absurd hf9 (Nat.not_lt_zero _)
  | succ f9 ih =>
    refine lv_aload_n hx hb d_M_from_2 rfl (lv_at hl 0 rfl) ?_
    refine va_get (D := (dC, dI)) (ci := 1) (v := .ref h1) (C := RM) (T := TM) (N := 3) hx hb hts inM hown hK hP 0 rfl rfl 2 (by decide) (hts _ wl_M_13) (fun _ h9 => h9) rfl d_M_from_3 ?_
    refine lv_iload_n hx hb d_M_from_6 rfl (lv_at hl 2 rfl) ?_
    refine va_zald hx hb hK hP 1 0 rfl rfl (vp_in_nI (by omega) (by decide)) d_M_from_7 ?_
    refine lv_topi (nm_r (show _ = F ci from by rw [nI_clamp (by omega)]) ?_)
    refine lv_if_ne (tgt := 17) hx hb d_M_from_8 (by decide) (fun c1 => ?_) (fun c1 => ?_)
    · have gt : G ci = true := zv_t (by rw [← hF ci (by omega)]; exact c1)
      refine lv_iload_n hx hb d_M_from_17 rfl (lv_at hl 2 rfl) ?_
      exact W.iret (v := nI ci) hx hb hr (fun t9 ht9 hW9 => ⟨⟨nI ci, (), rfl, congrArg nI (zb_uniq k1 (Or.inr gt) k2).symm, by rw [ht9]; exact hP, va_K.moved hW9.alike hK, hD⟩, hS.F ht9⟩) hS.2.2 d_M_from_18
    · have gf : G ci = false := zv_f (by rw [← hF ci (by omega)]; exact c1)
      have h0c : 0 < ci := Nat.pos_of_ne_zero (fun h9 => by rw [h9, g1] at gf; cases gf)
      have k3 : ∀ j, ci - 1 < j → j ≤ k → G j = false := fun j a b => by
        by_cases q : j = ci
        · rw [q]; exact gf
        · exact k2 j (by omega) b
      refine lv_iinc (v := nI (ci - 1)) (lv' := [(2, .int (nI (ci - 1))), (0, .ref h0), (1, .int (nI k))]) hx hb d_M_from_11 hl (k := 2) rfl (by rw [show Int32.ofInt (-1) = (-1 : Int32) from by decide]; exact sb_m1 (by omega)) (by decide) rfl (fun ls hl => ?_)
      refine lv_goto (tgt := 2) hx hb d_M_from_14 (by decide) ?_
      apply ih (ls := ls) (H := H) (locs := locs) (ci := ci - 1) <;> first | assumption | exact lv_sub hl [1, 2, 0] rfl | omega
set_option maxHeartbeats 4000000 in
set_option maxRecDepth 100000 in
/-- behind(k) -/
theorem cM_behind (l : Launch) (dC : Nat → ClassId) (dI : Nat → Nat → Nat) (h0 h1 : Nat) (cA : ClassId) (sz : Nat) (F : Nat → Int32) (G : Nat → Bool) (nn : Nat) (th : Int32) (hF : MF F G) (k : Nat) (g0 : k < nn) (g1 : nn ≤ 16384) (g2 : G nn = true) : Met l y_M_behind ws_M_behind ({ frames := 0, cells := 0, slots := 0, locals := 0 }) (va_Pc [.ref h0, .int (nI k)] (cc_P (dC, dI) vwCl (wM h0 h1 cA th (nI nn) F) (tM cA) sz)) (va_Qi (S := Unit) (fun (r : Int32) (u : Unit) => r = nI (zn G nn (k + 1))) (fun u t => cc_B (dC, dI) vwCl (tM cA) (va_A (wM h0 h1 cA th (nI nn) F) sz) ((fun _ : Unit => (wM h0 h1 cA th (nI nn) F)) u) t) (va_A (wM h0 h1 cA th (nI nn) F) sz)) 0 0 (va_A (wM h0 h1 cA th (nI nn) F) sz) := by
  refine Met.ofW (cc := c_M_behind) (maxL := 3) (ret := (some .int)) (by decide) rfl ?_
  intro p e s m args below meth c s₁ B hml hv
  obtain ⟨rfl, hsz, hP, hK, hD0⟩ := hv
  have hx := B.exec
  have hb := B.bytes
  have hr := B.returns
  have hts : ∀ w ∈ zAll, w.before _ s = true := fun w h => atoms_spec (ws := ws_M_behind) B.pre w (List.mem_cons_of_mem _ h)
  have hown : s.vm.findClass RM = some m.cls := findClass_of_methodNamed B.named
  have hlocks := B.notSynchronized
  subst hsz
  have hD := hD0.self (sz := s.heap.size)
  generalize hAe : va_A (wM h0 h1 cA th (nI nn) F) s.heap.size = A at hD ⊢
  have hA : ∀ q : Nat, s.heap.size ≤ q → A q := fun q h => by rw [← hAe]; exact Or.inr h
  have hS : va_S A s.heap s.heap [] := va_S.rf
  replace hP : va_P (dC, dI) vwCl [(h0, .inr (1, [.int th, .int (nI nn), .ref h1])), (h1, .inl (cA, 16385, .inl F))] s.heap := hP
  replace hD : va_D A [(h0, .inr (1, [.int th, .int (nI nn), .ref h1])), (h1, .inl (cA, 16385, .inl F))] := hD
  have hl := lv_entry ([.ref h0, .int (nI k)]) (n := 3) (Nat.le_of_ble_eq_true rfl)
  rw [lg_entry_eq]
  generalize (lg_sl ([.ref h0, .int (nI k)]) ++ List.replicate (3 - (lg_sl ([.ref h0, .int (nI k)])).length) Slot.unset).toArray = ls at hl ⊢
  replace hl : lv_has ls 3 [(0, .ref h0), (1, .int (nI k))] := hl
  refine lv_iload_n hx hb d_M_behind_0 rfl (lv_at hl 1 rfl) ?_
  refine lv_iconst (v := nI 1) hx hb d_M_behind_1 (by decide) ?_
  refine lv_iadd hx hb d_M_behind_2 ?_
  refine lv_topi (nm_r (show _ = nI (k + 1) from nI_add _ _) ?_)
  refine lv_istore_n (lv' := [(2, .int (nI (k + 1))), (0, .ref h0), (1, .int (nI k))]) hx hb d_M_behind_3 rfl hl (by decide) rfl (fun ls hl => ?_)
  refine cc_from hP hD hS (fun H locs hP hD hS => ?_)
  obtain ⟨ci, e_ci⟩ : ∃ ci : Nat, ci = k + 1 := ⟨_, rfl⟩
  replace hl : lv_has ls 3 [(0, .ref h0), (1, .int (nI k)), (2, .int (nI ci))] := by (subst e_ci; exact lv_sub hl [1, 2, 0] rfl)
  have k0 : k + 1 ≤ ci := by (subst e_ci; exact Nat.le_refl _)
  have k1 : ci ≤ nn := by (subst e_ci; exact g0)
  have k2 : ∀ j, k + 1 ≤ j → j < ci → G j = false := by (subst e_ci; exact fun j a b => absurd a (by omega))
  clear e_ci
  obtain ⟨f9, hf9⟩ : ∃ f9 : Nat, nn - ci < f9 := ⟨_, Nat.lt_succ_self _⟩
  induction f9 generalizing ls H locs ci with
  | zero => exact absurd hf9 (Nat.not_lt_zero _)
  | succ f9 ih =>
    refine lv_aload_n hx hb d_M_behind_4 rfl (lv_at hl 0 rfl) ?_
    refine va_get (D := (dC, dI)) (ci := 1) (v := .ref h1) (C := RM) (T := TM) (N := 3) hx hb hts inM hown hK hP 0 rfl rfl 2 (by decide) (hts _ wl_M_13) (fun _ h9 => h9) rfl d_M_behind_5 ?_
    refine lv_iload_n hx hb d_M_behind_8 rfl (lv_at hl 2 rfl) ?_
    refine va_zald hx hb hK hP 1 0 rfl rfl (vp_in_nI (by omega) (by decide)) d_M_behind_9 ?_
    refine lv_topi (nm_r (show _ = F ci from by rw [nI_clamp (by omega)]) ?_)
    refine lv_if_ne (tgt := 19) hx hb d_M_behind_10 (by decide) (fun c1 => ?_) (fun c1 => ?_)
    · have gt : G ci = true := zv_t (by rw [← hF ci (by omega)]; exact c1)
      refine lv_iload_n hx hb d_M_behind_19 rfl (lv_at hl 2 rfl) ?_
      exact W.iret (v := nI ci) hx hb hr (fun t9 ht9 hW9 => ⟨⟨nI ci, (), rfl, congrArg nI (zn_uniq k0 k1 (Or.inr gt) k2).symm, by rw [ht9]; exact hP, va_K.moved hW9.alike hK, hD⟩, hS.F ht9⟩) hS.2.2 d_M_behind_20
    · have gf : G ci = false := zv_f (by rw [← hF ci (by omega)]; exact c1)
      have hlt : ci < nn := Nat.lt_of_le_of_ne k1 (fun h9 => by rw [h9, g2] at gf; cases gf)
      have k3 : ∀ j, k + 1 ≤ j → j < ci + 1 → G j = false := fun j a b => by
        by_cases q : j = ci
        · rw [q]; exact gf
        · exact k2 j a (by omega)
      refine lv_iinc (v := nI (ci + 1)) (lv' := [(2, .int (nI (ci + 1))), (0, .ref h0), (1, .int (nI k))]) hx hb d_M_behind_13 hl (k := 2) rfl (nI_1 _) (by decide) rfl (fun ls hl => ?_)
      refine lv_goto (tgt := 4) hx hb d_M_behind_16 (by decide) ?_
      apply ih (ls := ls) (H := H) (locs := locs) (ci := ci + 1) <;> first | assumption | exact lv_sub hl [1, 2, 0] rfl | omega
set_option maxHeartbeats 4000000 in
set_option maxRecDepth 100000 in
/-- pieces() -/
theorem cM_pieces (l : Launch) (dC : Nat → ClassId) (dI : Nat → Nat → Nat) (h0 h1 : Nat) (cA : ClassId) (sz : Nat) (F : Nat → Int32) (G : Nat → Bool) (nn : Nat) (th : Int32) (hF : MF F G) (g1 : nn ≤ 16384) : Met l y_M_pieces ws_M_pieces ({ frames := 0, cells := 0, slots := 0, locals := 0 }) (va_Pc [.ref h0] (cc_P (dC, dI) vwCl (wM h0 h1 cA th (nI nn) F) (tM cA) sz)) (va_Qi (S := Unit) (fun (r : Int32) (u : Unit) => r = nI (zc G nn)) (fun u t => cc_B (dC, dI) vwCl (tM cA) (va_A (wM h0 h1 cA th (nI nn) F) sz) ((fun _ : Unit => (wM h0 h1 cA th (nI nn) F)) u) t) (va_A (wM h0 h1 cA th (nI nn) F) sz)) 0 0 (va_A (wM h0 h1 cA th (nI nn) F) sz) := by
  refine Met.ofW (cc := c_M_pieces) (maxL := 3) (ret := (some .int)) (by decide) rfl ?_
  intro p e s m args below meth c s₁ B hml hv
  obtain ⟨rfl, hsz, hP, hK, hD0⟩ := hv
  have hx := B.exec
  have hb := B.bytes
  have hr := B.returns
  have hts : ∀ w ∈ zAll, w.before _ s = true := fun w h => atoms_spec (ws := ws_M_pieces) B.pre w (List.mem_cons_of_mem _ h)
  have hown : s.vm.findClass RM = some m.cls := findClass_of_methodNamed B.named
  have hlocks := B.notSynchronized
  subst hsz
  have hD := hD0.self (sz := s.heap.size)
  generalize hAe : va_A (wM h0 h1 cA th (nI nn) F) s.heap.size = A at hD ⊢
  have hA : ∀ q : Nat, s.heap.size ≤ q → A q := fun q h => by rw [← hAe]; exact Or.inr h
  have hS : va_S A s.heap s.heap [] := va_S.rf
  replace hP : va_P (dC, dI) vwCl [(h0, .inr (1, [.int th, .int (nI nn), .ref h1])), (h1, .inl (cA, 16385, .inl F))] s.heap := hP
  replace hD : va_D A [(h0, .inr (1, [.int th, .int (nI nn), .ref h1])), (h1, .inl (cA, 16385, .inl F))] := hD
  have hl := lv_entry ([.ref h0]) (n := 3) (Nat.le_of_ble_eq_true rfl)
  rw [lg_entry_eq]
  generalize (lg_sl ([.ref h0]) ++ List.replicate (3 - (lg_sl ([.ref h0])).length) Slot.unset).toArray = ls at hl ⊢
  replace hl : lv_has ls 3 [(0, .ref h0)] := hl
  refine lv_iconst (v := nI 0) hx hb d_M_pieces_0 (by decide) ?_
  refine lv_istore_n (lv' := [(1, .int (nI 0)), (0, .ref h0)]) hx hb d_M_pieces_1 rfl hl (by decide) rfl (fun ls hl => ?_)
  refine lv_iconst (v := nI 0) hx hb d_M_pieces_2 (by decide) ?_
  refine lv_istore_n (lv' := [(2, .int (nI 0)), (1, .int (nI 0)), (0, .ref h0)]) hx hb d_M_pieces_3 rfl hl (by decide) rfl (fun ls hl => ?_)
  refine cc_from hP hD hS (fun H locs hP hD hS => ?_)
  obtain ⟨ci, e_ci⟩ : ∃ ci : Nat, ci = 0 := ⟨_, rfl⟩
  obtain ⟨q, e_q⟩ : ∃ q : Nat, q = 0 := ⟨_, rfl⟩
  replace hl : lv_has ls 3 [(0, .ref h0), (1, .int (nI q)), (2, .int (nI ci))] := by (subst e_ci; subst e_q; exact lv_sub hl [2, 1, 0] rfl)
  have k1 : ci ≤ nn := by (subst e_ci; subst e_q; exact Nat.zero_le _)
  have k2 : q = zc G ci := by (subst e_ci; subst e_q; rfl)
  clear e_ci e_q
  obtain ⟨f9, hf9⟩ : ∃ f9 : Nat, nn - ci < f9 := ⟨_, Nat.lt_succ_self _⟩
  induction f9 generalizing ls H locs ci q with
  | zero => exact absurd hf9 (Nat.not_lt_zero _)
  | succ f9 ih =>
    have kq := zc_le G ci
    refine lv_iload_n hx hb d_M_pieces_4 rfl (lv_at hl 2 rfl) ?_
    refine lv_aload_n hx hb d_M_pieces_5 rfl (lv_at hl 0 rfl) ?_
    refine va_get (D := (dC, dI)) (ci := 1) (v := .int (nI nn)) (C := RM) (T := TM) (N := 3) hx hb hts inM hown hK hP 0 rfl rfl 1 (by decide) (hts _ wl_M_7) (fun _ h9 => h9) rfl d_M_pieces_6 ?_
    refine lv_icmp_ge (tgt := 35) hx hb d_M_pieces_9 (by decide) (fun c1 => ?_) (fun c1 => ?_)
    · replace c1 : nn ≤ ci := (nI_leI (a := nn) (b := ci) (by omega) (by omega)).mp c1
      have ee : ci = nn := by omega
      subst ee
      refine lv_iload_n hx hb d_M_pieces_35 rfl (lv_at hl 1 rfl) ?_
      exact W.iret (v := nI q) hx hb hr (fun t9 ht9 hW9 => ⟨⟨nI q, (), rfl, congrArg nI k2, by rw [ht9]; exact hP, va_K.moved hW9.alike hK, hD⟩, hS.F ht9⟩) hS.2.2 d_M_pieces_36
    · replace c1 : ¬ (nn ≤ ci) := fun h9 => c1 ((nI_leI (a := nn) (b := ci) (by omega) (by omega)).mpr h9)
      refine lv_aload_n hx hb d_M_pieces_12 rfl (lv_at hl 0 rfl) ?_
      refine va_get (D := (dC, dI)) (ci := 1) (v := .ref h1) (C := RM) (T := TM) (N := 3) hx hb hts inM hown hK hP 0 rfl rfl 2 (by decide) (hts _ wl_M_13) (fun _ h9 => h9) rfl d_M_pieces_13 ?_
      refine lv_iload_n hx hb d_M_pieces_16 rfl (lv_at hl 2 rfl) ?_
      refine va_zald hx hb hK hP 1 0 rfl rfl (vp_in_nI (by omega) (by decide)) d_M_pieces_17 ?_
      refine lv_topi (nm_r (show _ = F ci from by rw [nI_clamp (by omega)]) ?_)
      refine lv_if_eq (tgt := 27) hx hb d_M_pieces_18 (by decide) (fun c2 => ?_) (fun c2 => ?_)
      · have gf : G ci = false := zv_f (by rw [← hF ci (by omega)]; exact c2)
        have k3 : q = zc G (ci + 1) := by (rw [zc_s, gf, k2]; simp)
        refine lv_iload_n hx hb d_M_pieces_27 rfl (lv_at hl 1 rfl) ?_
        refine lv_istore_n (lv' := [(1, .int (nI q)), (0, .ref h0), (2, .int (nI ci))]) hx hb d_M_pieces_28 rfl hl (by decide) rfl (fun ls hl => ?_)
        refine lv_iinc (v := nI (ci + 1)) (lv' := [(2, .int (nI (ci + 1))), (1, .int (nI q)), (0, .ref h0)]) hx hb d_M_pieces_29 hl (k := 2) rfl (nI_1 _) (by decide) rfl (fun ls hl => ?_)
        refine lv_goto (tgt := 4) hx hb d_M_pieces_32 (by decide) ?_
        apply ih (ls := ls) (H := H) (locs := locs) (ci := ci + 1) (q := q) <;> first | assumption | exact lv_sub hl [2, 1, 0] rfl | omega
      · have gt : G ci = true := zv_t (by rw [← hF ci (by omega)]; exact c2)
        have k3 : q + 1 = zc G (ci + 1) := by (rw [zc_s, gt, k2]; simp)
        refine lv_iload_n hx hb d_M_pieces_21 rfl (lv_at hl 1 rfl) ?_
        refine lv_iconst (v := nI 1) hx hb d_M_pieces_22 (by decide) ?_
        refine lv_iadd hx hb d_M_pieces_23 ?_
        refine lv_topi (nm_r (show _ = nI (q + 1) from nI_add _ _) ?_)
        refine lv_goto (tgt := 28) hx hb d_M_pieces_24 (by decide) ?_
        refine lv_istore_n (lv' := [(1, .int (nI (q + 1))), (0, .ref h0), (2, .int (nI ci))]) hx hb d_M_pieces_28 rfl hl (by decide) rfl (fun ls hl => ?_)
        refine lv_iinc (v := nI (ci + 1)) (lv' := [(2, .int (nI (ci + 1))), (1, .int (nI (q + 1))), (0, .ref h0)]) hx hb d_M_pieces_29 hl (k := 2) rfl (nI_1 _) (by decide) rfl (fun ls hl => ?_)
        refine lv_goto (tgt := 4) hx hb d_M_pieces_32 (by decide) ?_
        apply ih (ls := ls) (H := H) (locs := locs) (ci := ci + 1) (q := q + 1) <;> first | assumption | exact lv_sub hl [2, 1, 0] rfl | omega
