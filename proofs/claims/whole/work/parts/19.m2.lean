set_option maxHeartbeats 4000000 in
set_option maxRecDepth 100000 in
/-- M_begin -/
theorem cM_begin (l : Launch) (dC : Nat → ClassId) (dI : Nat → Nat → Nat) (h0 h1 : Nat) (cA : ClassId) (sz : Nat) (F : Nat → Int32) (G : Nat → Bool) (nn : Nat) (th : Int32) (hF : MF F G) (x : Int32) (g1 : nn ≤ 16384) (g2 : G 0 = true) (g3 : G nn = true) : Met l y_M_begin ws_M_begin ({ frames := 1, cells := 0, slots := 0, locals := 22 }) (va_Pc [.ref h0, .int x] (cc_P (dC, dI) vwCl (wM h0 h1 cA th (nI nn) F) (tM cA) sz)) (va_Qi (S := Bool × (Nat → Int32) × (Nat → Bool)) (fun (r : Int32) (u : Bool × (Nat → Int32) × (Nat → Bool)) => MF u.2.1 u.2.2 ∧ ((u.1 = true ∧ ∃ k, k < nn ∧ x = nI k ∧ r = nI (zb G k) ∧ u.2.2 = G) ∨ (u.1 = false ∧ (¬ ∃ k, k < nn ∧ x = nI k) ∧ u.2.2 = G))) (fun u t => cc_B (dC, dI) vwCl (tM cA) (va_A (wM h0 h1 cA th (nI nn) F) sz) ((fun u : Bool × (Nat → Int32) × (Nat → Bool) => (wM h0 h1 cA (zv (!u.1)) (nI nn) u.2.1)) u) t) (va_A (wM h0 h1 cA th (nI nn) F) sz)) 0 0 (va_A (wM h0 h1 cA th (nI nn) F) sz) := by
  refine Met.ofW (cc := c_M_begin) (maxL := 2) (ret := (some .int)) (by decide) rfl ?_
  intro p e s m args below meth c s₁ B hml hv
  obtain ⟨rfl, hsz, hP, hK, hD0⟩ := hv
  have hx := B.exec
  have hb := B.bytes
  have hr := B.returns
  have hts : ∀ w ∈ zAll, w.before _ s = true := fun w h => atoms_spec (ws := ws_M_begin) B.pre w (List.mem_cons_of_mem _ h)
  have hown : s.vm.findClass RM = some m.cls := findClass_of_methodNamed B.named
  have hlocks := B.notSynchronized
  subst hsz
  have hD := hD0.self (sz := s.heap.size)
  generalize hAe : va_A (wM h0 h1 cA th (nI nn) F) s.heap.size = A at hD ⊢
  have hA : ∀ q : Nat, s.heap.size ≤ q → A q := fun q h => by rw [← hAe]; exact Or.inr h
  have hS : va_S A s.heap s.heap [] := va_S.rf
  replace hP : va_P (dC, dI) vwCl [(h0, .inr (1, [.int th, .int (nI nn), .ref h1])), (h1, .inl (cA, 16385, .inl F))] s.heap := hP
  replace hD : va_D A [(h0, .inr (1, [.int th, .int (nI nn), .ref h1])), (h1, .inl (cA, 16385, .inl F))] := hD
  have hl := lv_entry ([.ref h0, .int x]) (n := 2) (Nat.le_of_ble_eq_true rfl)
  rw [lg_entry_eq]
  generalize (lg_sl ([.ref h0, .int x]) ++ List.replicate (2 - (lg_sl ([.ref h0, .int x])).length) Slot.unset).toArray = ls at hl ⊢
  replace hl : lv_has ls 2 [(0, .ref h0), (1, .int x)] := hl
  refine lv_aload_n hx hb d_M_begin_0 rfl (lv_at hl 0 rfl) ?_
  refine lv_aload_n hx hb d_M_begin_1 rfl (lv_at hl 0 rfl) ?_
  refine lv_iload_n hx hb d_M_begin_2 rfl (lv_at hl 1 rfl) ?_
  refine cc_Vi (wc := [(h0, .inr (1, [.int th, .int (nI nn), .ref h1])), (h1, .inl (cA, 16385, .inl F))]) (wr := []) (tys' := [(cA, .boolean)]) ⟨hx, hb, hml, hown, hts⟩ hP hD hK hS hA [0, 1] [] [0] rfl rfl rfl (by decide) (by decide) (by decide) rfl (cM_isCell l dC dI h0 h1 cA _ F G nn th hF x g1) (cwV 1 hts g_M_28 rfl rfl rfl (by decide +kernel) ⟨Nat.le_of_ble_eq_true rfl, Nat.le_of_ble_eq_true rfl⟩) 0 1 rfl rfl rfl rfl hl.1 rfl (Nat.le_of_ble_eq_true rfl) d_M_begin_3 ⟨Nat.le_of_ble_eq_true rfl, Nat.le_of_ble_eq_true rfl⟩ (fun r_9 bb H locs hw hP hD hS => ?_)
  replace hP : va_P (dC, dI) vwCl [(h0, .inr (1, [.int th, .int (nI nn), .ref h1])), (h1, .inl (cA, 16385, .inl F))] H := hP
  replace hD : va_D A [(h0, .inr (1, [.int th, .int (nI nn), .ref h1])), (h1, .inl (cA, 16385, .inl F))] := hD
  obtain ⟨rfl, hb1, hb2⟩ := hw
  refine cc_Vi (wc := [(h0, .inr (1, [.int th, .int (nI nn), .ref h1])), (h1, .inl (cA, 16385, .inl F))]) (wr := []) (tys' := [(cA, .boolean)]) ⟨hx, hb, hml, hown, hts⟩ hP hD hK hS hA [0, 1] [] [0] rfl rfl rfl (by decide) (by decide) (by decide) rfl (cM_goes l dC dI h0 h1 cA _ F G nn th hF bb) (cwV 1 hts g_M_24 rfl rfl rfl (by decide +kernel) ⟨Nat.le_of_ble_eq_true rfl, Nat.le_of_ble_eq_true rfl⟩) 0 1 rfl rfl rfl rfl hl.1 rfl (Nat.le_of_ble_eq_true rfl) d_M_begin_6 ⟨Nat.le_of_ble_eq_true rfl, Nat.le_of_ble_eq_true rfl⟩ (fun r_9 u9 H locs hw9 hP hD hS => ?_)
  replace hP : va_P (dC, dI) vwCl [(h0, .inr (1, [.int (zv (!bb)), .int (nI nn), .ref h1])), (h1, .inl (cA, 16385, .inl F))] H := hP
  replace hD : va_D A [(h0, .inr (1, [.int (zv (!bb)), .int (nI nn), .ref h1])), (h1, .inl (cA, 16385, .inl F))] := hD
  subst hw9
  refine lv_if_eq (tgt := 20) hx hb d_M_begin_9 (by decide) (fun c1 => ?_) (fun c1 => ?_)
  · have eb : bb = false := zv_f c1
    subst eb
    refine lv_iconst (v := nI 0) hx hb d_M_begin_20 (by decide) ?_
    exact W.iret (v := nI 0) hx hb hr (fun t9 ht9 hW9 => ⟨⟨nI 0, (false, F, G), rfl, ⟨hF, Or.inr ⟨rfl, hb2 rfl, rfl⟩⟩, by rw [ht9]; exact hP, va_K.moved hW9.alike hK, hD⟩, hS.F ht9⟩) hS.2.2 d_M_begin_21
  · have eb : bb = true := zv_t c1
    subst eb
    obtain ⟨k, k1, rfl⟩ := hb1 rfl
    refine lv_aload_n hx hb d_M_begin_12 rfl (lv_at hl 0 rfl) ?_
    refine lv_iload_n hx hb d_M_begin_13 rfl (lv_at hl 1 rfl) ?_
    refine cc_Vi (wc := [(h0, .inr (1, [.int (zv (!true)), .int (nI nn), .ref h1])), (h1, .inl (cA, 16385, .inl F))]) (wr := []) (tys' := [(cA, .boolean)]) ⟨hx, hb, hml, hown, hts⟩ hP hD hK hS hA [0, 1] [] [0] rfl rfl rfl (by decide) (by decide) (by decide) rfl (cM_from l dC dI h0 h1 cA _ F G nn (zv (!true)) hF k (by omega) g2) (cwV 1 hts g_M_32 rfl rfl rfl (by decide +kernel) ⟨Nat.le_of_ble_eq_true rfl, Nat.le_of_ble_eq_true rfl⟩) 0 1 rfl rfl rfl rfl hl.1 rfl (Nat.le_of_ble_eq_true rfl) d_M_begin_14 ⟨Nat.le_of_ble_eq_true rfl, Nat.le_of_ble_eq_true rfl⟩ (fun r_9 u H locs hw hP hD hS => ?_)
    replace hP : va_P (dC, dI) vwCl [(h0, .inr (1, [.int (zv (!true)), .int (nI nn), .ref h1])), (h1, .inl (cA, 16385, .inl F))] H := hP
    replace hD : va_D A [(h0, .inr (1, [.int (zv (!true)), .int (nI nn), .ref h1])), (h1, .inl (cA, 16385, .inl F))] := hD
    subst hw
    have zl := zb_le G k
    refine lv_goto (tgt := 21) hx hb d_M_begin_17 (by decide) ?_
    exact W.iret (v := nI (zb G k)) hx hb hr (fun t9 ht9 hW9 => ⟨⟨nI (zb G k), (true, F, G), rfl, ⟨hF, Or.inl ⟨rfl, k, k1, rfl, rfl, rfl⟩⟩, by rw [ht9]; exact hP, va_K.moved hW9.alike hK, hD⟩, hS.F ht9⟩) hS.2.2 d_M_begin_21
set_option maxHeartbeats 4000000 in
set_option maxRecDepth 100000 in
/-- M_size -/
theorem cM_size (l : Launch) (dC : Nat → ClassId) (dI : Nat → Nat → Nat) (h0 h1 : Nat) (cA : ClassId) (sz : Nat) (F : Nat → Int32) (G : Nat → Bool) (nn : Nat) (th : Int32) (hF : MF F G) (x : Int32) (g1 : nn ≤ 16384) (g2 : G 0 = true) (g3 : G nn = true) : Met l y_M_size ws_M_size ({ frames := 1, cells := 0, slots := 0, locals := 22 }) (va_Pc [.ref h0, .int x] (cc_P (dC, dI) vwCl (wM h0 h1 cA th (nI nn) F) (tM cA) sz)) (va_Qi (S := Bool × (Nat → Int32) × (Nat → Bool)) (fun (r : Int32) (u : Bool × (Nat → Int32) × (Nat → Bool)) => MF u.2.1 u.2.2 ∧ ((u.1 = true ∧ ∃ k, k < nn ∧ x = nI k ∧ r = nI (zn G nn (k + 1) - zb G k) ∧ u.2.2 = G) ∨ (u.1 = false ∧ (¬ ∃ k, k < nn ∧ x = nI k) ∧ u.2.2 = G))) (fun u t => cc_B (dC, dI) vwCl (tM cA) (va_A (wM h0 h1 cA th (nI nn) F) sz) ((fun u : Bool × (Nat → Int32) × (Nat → Bool) => (wM h0 h1 cA (zv (!u.1)) (nI nn) u.2.1)) u) t) (va_A (wM h0 h1 cA th (nI nn) F) sz)) 0 0 (va_A (wM h0 h1 cA th (nI nn) F) sz) := by
  refine Met.ofW (cc := c_M_size) (maxL := 2) (ret := (some .int)) (by decide) rfl ?_
  intro p e s m args below meth c s₁ B hml hv
  obtain ⟨rfl, hsz, hP, hK, hD0⟩ := hv
  have hx := B.exec
  have hb := B.bytes
  have hr := B.returns
  have hts : ∀ w ∈ zAll, w.before _ s = true := fun w h => atoms_spec (ws := ws_M_size) B.pre w (List.mem_cons_of_mem _ h)
  have hown : s.vm.findClass RM = some m.cls := findClass_of_methodNamed B.named
  have hlocks := B.notSynchronized
  subst hsz
  have hD := hD0.self (sz := s.heap.size)
  generalize hAe : va_A (wM h0 h1 cA th (nI nn) F) s.heap.size = A at hD ⊢
  have hA : ∀ q : Nat, s.heap.size ≤ q → A q := fun q h => by rw [← hAe]; exact Or.inr h
  have hS : va_S A s.heap s.heap [] := va_S.rf
  replace hP : va_P (dC, dI) vwCl [(h0, .inr (1, [.int th, .int (nI nn), .ref h1])), (h1, .inl (cA, 16385, .inl F))] s.heap := hP
  replace hD : va_D A [(h0, .inr (1, [.int th, .int (nI nn), .ref h1])), (h1, .inl (cA, 16385, .inl F))] := hD
  have hl := lv_entry ([.ref h0, .int x]) (n := 2) (Nat.le_of_ble_eq_true rfl)
  rw [lg_entry_eq]
  generalize (lg_sl ([.ref h0, .int x]) ++ List.replicate (2 - (lg_sl ([.ref h0, .int x])).length) Slot.unset).toArray = ls at hl ⊢
  replace hl : lv_has ls 2 [(0, .ref h0), (1, .int x)] := hl
  refine lv_aload_n hx hb d_M_size_0 rfl (lv_at hl 0 rfl) ?_
  refine lv_aload_n hx hb d_M_size_1 rfl (lv_at hl 0 rfl) ?_
  refine lv_iload_n hx hb d_M_size_2 rfl (lv_at hl 1 rfl) ?_
  refine cc_Vi (wc := [(h0, .inr (1, [.int th, .int (nI nn), .ref h1])), (h1, .inl (cA, 16385, .inl F))]) (wr := []) (tys' := [(cA, .boolean)]) ⟨hx, hb, hml, hown, hts⟩ hP hD hK hS hA [0, 1] [] [0] rfl rfl rfl (by decide) (by decide) (by decide) rfl (cM_isCell l dC dI h0 h1 cA _ F G nn th hF x g1) (cwV 1 hts g_M_28 rfl rfl rfl (by decide +kernel) ⟨Nat.le_of_ble_eq_true rfl, Nat.le_of_ble_eq_true rfl⟩) 0 1 rfl rfl rfl rfl hl.1 rfl (Nat.le_of_ble_eq_true rfl) d_M_size_3 ⟨Nat.le_of_ble_eq_true rfl, Nat.le_of_ble_eq_true rfl⟩ (fun r_9 bb H locs hw hP hD hS => ?_)
  replace hP : va_P (dC, dI) vwCl [(h0, .inr (1, [.int th, .int (nI nn), .ref h1])), (h1, .inl (cA, 16385, .inl F))] H := hP
  replace hD : va_D A [(h0, .inr (1, [.int th, .int (nI nn), .ref h1])), (h1, .inl (cA, 16385, .inl F))] := hD
  obtain ⟨rfl, hb1, hb2⟩ := hw
  refine cc_Vi (wc := [(h0, .inr (1, [.int th, .int (nI nn), .ref h1])), (h1, .inl (cA, 16385, .inl F))]) (wr := []) (tys' := [(cA, .boolean)]) ⟨hx, hb, hml, hown, hts⟩ hP hD hK hS hA [0, 1] [] [0] rfl rfl rfl (by decide) (by decide) (by decide) rfl (cM_goes l dC dI h0 h1 cA _ F G nn th hF bb) (cwV 1 hts g_M_24 rfl rfl rfl (by decide +kernel) ⟨Nat.le_of_ble_eq_true rfl, Nat.le_of_ble_eq_true rfl⟩) 0 1 rfl rfl rfl rfl hl.1 rfl (Nat.le_of_ble_eq_true rfl) d_M_size_6 ⟨Nat.le_of_ble_eq_true rfl, Nat.le_of_ble_eq_true rfl⟩ (fun r_9 u9 H locs hw9 hP hD hS => ?_)
  replace hP : va_P (dC, dI) vwCl [(h0, .inr (1, [.int (zv (!bb)), .int (nI nn), .ref h1])), (h1, .inl (cA, 16385, .inl F))] H := hP
  replace hD : va_D A [(h0, .inr (1, [.int (zv (!bb)), .int (nI nn), .ref h1])), (h1, .inl (cA, 16385, .inl F))] := hD
  subst hw9
  refine lv_if_eq (tgt := 26) hx hb d_M_size_9 (by decide) (fun c1 => ?_) (fun c1 => ?_)
  · have eb : bb = false := zv_f c1
    subst eb
    refine lv_iconst (v := nI 0) hx hb d_M_size_26 (by decide) ?_
    exact W.iret (v := nI 0) hx hb hr (fun t9 ht9 hW9 => ⟨⟨nI 0, (false, F, G), rfl, ⟨hF, Or.inr ⟨rfl, hb2 rfl, rfl⟩⟩, by rw [ht9]; exact hP, va_K.moved hW9.alike hK, hD⟩, hS.F ht9⟩) hS.2.2 d_M_size_27
  · have eb : bb = true := zv_t c1
    subst eb
    obtain ⟨k, k1, rfl⟩ := hb1 rfl
    refine lv_aload_n hx hb d_M_size_12 rfl (lv_at hl 0 rfl) ?_
    refine lv_iload_n hx hb d_M_size_13 rfl (lv_at hl 1 rfl) ?_
    refine cc_Vi (wc := [(h0, .inr (1, [.int (zv (!true)), .int (nI nn), .ref h1])), (h1, .inl (cA, 16385, .inl F))]) (wr := []) (tys' := [(cA, .boolean)]) ⟨hx, hb, hml, hown, hts⟩ hP hD hK hS hA [0, 1] [] [0] rfl rfl rfl (by decide) (by decide) (by decide) rfl (cM_behind l dC dI h0 h1 cA _ F G nn (zv (!true)) hF k (by omega) g1 g3) (cwV 1 hts g_M_36 rfl rfl rfl (by decide +kernel) ⟨Nat.le_of_ble_eq_true rfl, Nat.le_of_ble_eq_true rfl⟩) 0 1 rfl rfl rfl rfl hl.1 rfl (Nat.le_of_ble_eq_true rfl) d_M_size_14 ⟨Nat.le_of_ble_eq_true rfl, Nat.le_of_ble_eq_true rfl⟩ (fun r_9 u H locs hw hP hD hS => ?_)
    replace hP : va_P (dC, dI) vwCl [(h0, .inr (1, [.int (zv (!true)), .int (nI nn), .ref h1])), (h1, .inl (cA, 16385, .inl F))] H := hP
    replace hD : va_D A [(h0, .inr (1, [.int (zv (!true)), .int (nI nn), .ref h1])), (h1, .inl (cA, 16385, .inl F))] := hD
    subst hw
    have zg1 := zn_ge G nn (k + 1)
    have zh1 : zn G nn (k + 1) ≤ nn := zn_le (by omega)
    refine lv_aload_n hx hb d_M_size_17 rfl (lv_at hl 0 rfl) ?_
    refine lv_iload_n hx hb d_M_size_18 rfl (lv_at hl 1 rfl) ?_
    refine cc_Vi (wc := [(h0, .inr (1, [.int (zv (!true)), .int (nI nn), .ref h1])), (h1, .inl (cA, 16385, .inl F))]) (wr := []) (tys' := [(cA, .boolean)]) ⟨hx, hb, hml, hown, hts⟩ hP hD hK hS hA [0, 1] [] [0] rfl rfl rfl (by decide) (by decide) (by decide) rfl (cM_from l dC dI h0 h1 cA _ F G nn (zv (!true)) hF k (by omega) g2) (cwV 1 hts g_M_32 rfl rfl rfl (by decide +kernel) ⟨Nat.le_of_ble_eq_true rfl, Nat.le_of_ble_eq_true rfl⟩) 0 1 rfl rfl rfl rfl hl.1 rfl (Nat.le_of_ble_eq_true rfl) d_M_size_19 ⟨Nat.le_of_ble_eq_true rfl, Nat.le_of_ble_eq_true rfl⟩ (fun r_9 u H locs hw hP hD hS => ?_)
    replace hP : va_P (dC, dI) vwCl [(h0, .inr (1, [.int (zv (!true)), .int (nI nn), .ref h1])), (h1, .inl (cA, 16385, .inl F))] H := hP
    replace hD : va_D A [(h0, .inr (1, [.int (zv (!true)), .int (nI nn), .ref h1])), (h1, .inl (cA, 16385, .inl F))] := hD
    subst hw
    have zl := zb_le G k
    refine lv_isub hx hb d_M_size_22 ?_
    refine lv_topi (nm_r (show _ = nI ((zn G nn (k + 1)) - (zb G k)) from pk_sub (by omega)) ?_)
    refine lv_goto (tgt := 27) hx hb d_M_size_23 (by decide) ?_
    exact W.iret (v := nI ((zn G nn (k + 1)) - (zb G k))) hx hb hr (fun t9 ht9 hW9 => ⟨⟨nI ((zn G nn (k + 1)) - (zb G k)), (true, F, G), rfl, ⟨hF, Or.inl ⟨rfl, k, k1, rfl, rfl, rfl⟩⟩, by rw [ht9]; exact hP, va_K.moved hW9.alike hK, hD⟩, hS.F ht9⟩) hS.2.2 d_M_size_27
set_option maxHeartbeats 4000000 in
set_option maxRecDepth 100000 in
/-- M_start -/
theorem cM_start (l : Launch) (dC : Nat → ClassId) (dI : Nat → Nat → Nat) (h0 h1 : Nat) (cA : ClassId) (sz : Nat) (F : Nat → Int32) (G : Nat → Bool) (nn : Nat) (th : Int32) (hF : MF F G) (x : Int32) (g1 : nn ≤ 16384) (g2 : G 0 = true) (g3 : G nn = true) : Met l y_M_start ws_M_start ({ frames := 2, cells := 0, slots := 0, locals := 41 }) (va_Pc [.ref h0, .int x] (cc_P (dC, dI) vwCl (wM h0 h1 cA th (nI nn) F) (tM cA) sz)) (va_Qi (S := Bool × (Nat → Int32) × (Nat → Bool)) (fun (r : Int32) (u : Bool × (Nat → Int32) × (Nat → Bool)) => MF u.2.1 u.2.2 ∧ ((u.1 = true ∧ ∃ k, k < (nn + 31) / 32 ∧ x = nI k ∧ r = nI (zb G (32 * k)) ∧ u.2.2 = G) ∨ (u.1 = false ∧ (¬ ∃ k, k < (nn + 31) / 32 ∧ x = nI k) ∧ u.2.2 = G))) (fun u t => cc_B (dC, dI) vwCl (tM cA) (va_A (wM h0 h1 cA th (nI nn) F) sz) ((fun u : Bool × (Nat → Int32) × (Nat → Bool) => (wM h0 h1 cA (zv (!u.1)) (nI nn) u.2.1)) u) t) (va_A (wM h0 h1 cA th (nI nn) F) sz)) 0 0 (va_A (wM h0 h1 cA th (nI nn) F) sz) := by
  refine Met.ofW (cc := c_M_start) (maxL := 2) (ret := (some .int)) (by decide) rfl ?_
  intro p e s m args below meth c s₁ B hml hv
  obtain ⟨rfl, hsz, hP, hK, hD0⟩ := hv
  have hx := B.exec
  have hb := B.bytes
  have hr := B.returns
  have hts : ∀ w ∈ zAll, w.before _ s = true := fun w h => atoms_spec (ws := ws_M_start) B.pre w (List.mem_cons_of_mem _ h)
  have hown : s.vm.findClass RM = some m.cls := findClass_of_methodNamed B.named
  have hlocks := B.notSynchronized
  subst hsz
  have hD := hD0.self (sz := s.heap.size)
  generalize hAe : va_A (wM h0 h1 cA th (nI nn) F) s.heap.size = A at hD ⊢
  have hA : ∀ q : Nat, s.heap.size ≤ q → A q := fun q h => by rw [← hAe]; exact Or.inr h
  have hS : va_S A s.heap s.heap [] := va_S.rf
  replace hP : va_P (dC, dI) vwCl [(h0, .inr (1, [.int th, .int (nI nn), .ref h1])), (h1, .inl (cA, 16385, .inl F))] s.heap := hP
  replace hD : va_D A [(h0, .inr (1, [.int th, .int (nI nn), .ref h1])), (h1, .inl (cA, 16385, .inl F))] := hD
  have hl := lv_entry ([.ref h0, .int x]) (n := 2) (Nat.le_of_ble_eq_true rfl)
  rw [lg_entry_eq]
  generalize (lg_sl ([.ref h0, .int x]) ++ List.replicate (2 - (lg_sl ([.ref h0, .int x])).length) Slot.unset).toArray = ls at hl ⊢
  replace hl : lv_has ls 2 [(0, .ref h0), (1, .int x)] := hl
  refine lv_aload_n hx hb d_M_start_0 rfl (lv_at hl 0 rfl) ?_
  refine lv_aload_n hx hb d_M_start_1 rfl (lv_at hl 0 rfl) ?_
  refine lv_iload_n hx hb d_M_start_2 rfl (lv_at hl 1 rfl) ?_
  refine cc_Vi (wc := [(h0, .inr (1, [.int th, .int (nI nn), .ref h1])), (h1, .inl (cA, 16385, .inl F))]) (wr := []) (tys' := [(cA, .boolean)]) ⟨hx, hb, hml, hown, hts⟩ hP hD hK hS hA [0, 1] [] [0] rfl rfl rfl (by decide) (by decide) (by decide) rfl (cM_isCard l dC dI h0 h1 cA _ F G nn th hF x g1) (cwV 1 hts g_M_42 rfl rfl rfl (by decide +kernel) ⟨Nat.le_of_ble_eq_true rfl, Nat.le_of_ble_eq_true rfl⟩) 0 1 rfl rfl rfl rfl hl.1 rfl (Nat.le_of_ble_eq_true rfl) d_M_start_3 ⟨Nat.le_of_ble_eq_true rfl, Nat.le_of_ble_eq_true rfl⟩ (fun r_9 bb H locs hw hP hD hS => ?_)
  replace hP : va_P (dC, dI) vwCl [(h0, .inr (1, [.int th, .int (nI nn), .ref h1])), (h1, .inl (cA, 16385, .inl F))] H := hP
  replace hD : va_D A [(h0, .inr (1, [.int th, .int (nI nn), .ref h1])), (h1, .inl (cA, 16385, .inl F))] := hD
  obtain ⟨rfl, hb1, hb2⟩ := hw
  refine cc_Vi (wc := [(h0, .inr (1, [.int th, .int (nI nn), .ref h1])), (h1, .inl (cA, 16385, .inl F))]) (wr := []) (tys' := [(cA, .boolean)]) ⟨hx, hb, hml, hown, hts⟩ hP hD hK hS hA [0, 1] [] [0] rfl rfl rfl (by decide) (by decide) (by decide) rfl (cM_goes l dC dI h0 h1 cA _ F G nn th hF bb) (cwV 1 hts g_M_24 rfl rfl rfl (by decide +kernel) ⟨Nat.le_of_ble_eq_true rfl, Nat.le_of_ble_eq_true rfl⟩) 0 1 rfl rfl rfl rfl hl.1 rfl (Nat.le_of_ble_eq_true rfl) d_M_start_6 ⟨Nat.le_of_ble_eq_true rfl, Nat.le_of_ble_eq_true rfl⟩ (fun r_9 u9 H locs hw9 hP hD hS => ?_)
  replace hP : va_P (dC, dI) vwCl [(h0, .inr (1, [.int (zv (!bb)), .int (nI nn), .ref h1])), (h1, .inl (cA, 16385, .inl F))] H := hP
  replace hD : va_D A [(h0, .inr (1, [.int (zv (!bb)), .int (nI nn), .ref h1])), (h1, .inl (cA, 16385, .inl F))] := hD
  subst hw9
  refine lv_if_eq (tgt := 23) hx hb d_M_start_9 (by decide) (fun c1 => ?_) (fun c1 => ?_)
  · have eb : bb = false := zv_f c1
    subst eb
    refine lv_iconst (v := nI 0) hx hb d_M_start_23 (by decide) ?_
    exact W.iret (v := nI 0) hx hb hr (fun t9 ht9 hW9 => ⟨⟨nI 0, (false, F, G), rfl, ⟨hF, Or.inr ⟨rfl, hb2 rfl, rfl⟩⟩, by rw [ht9]; exact hP, va_K.moved hW9.alike hK, hD⟩, hS.F ht9⟩) hS.2.2 d_M_start_24
  · have eb : bb = true := zv_t c1
    subst eb
    obtain ⟨k, k1, rfl⟩ := hb1 rfl
    refine lv_aload_n hx hb d_M_start_12 rfl (lv_at hl 0 rfl) ?_
    refine lv_bipush (v := nI 32) hx hb d_M_start_13 (by decide) ?_
    refine lv_iload_n hx hb d_M_start_15 rfl (lv_at hl 1 rfl) ?_
    refine lv_imul hx hb d_M_start_16 ?_
    refine lv_topi (nm_r (show _ = nI (32 * k) from pk_mul _ _) ?_)
    refine cc_Vi (wc := [(h0, .inr (1, [.int (zv (!true)), .int (nI nn), .ref h1])), (h1, .inl (cA, 16385, .inl F))]) (wr := []) (tys' := [(cA, .boolean)]) ⟨hx, hb, hml, hown, hts⟩ hP hD hK hS hA [0, 1] [] [0] rfl rfl rfl (by decide) (by decide) (by decide) rfl (cM_from l dC dI h0 h1 cA _ F G nn (zv (!true)) hF (32 * k) (by omega) g2) (cwV 1 hts g_M_32 rfl rfl rfl (by decide +kernel) ⟨Nat.le_of_ble_eq_true rfl, Nat.le_of_ble_eq_true rfl⟩) 0 1 rfl rfl rfl rfl hl.1 rfl (Nat.le_of_ble_eq_true rfl) d_M_start_17 ⟨Nat.le_of_ble_eq_true rfl, Nat.le_of_ble_eq_true rfl⟩ (fun r_9 u H locs hw hP hD hS => ?_)
    replace hP : va_P (dC, dI) vwCl [(h0, .inr (1, [.int (zv (!true)), .int (nI nn), .ref h1])), (h1, .inl (cA, 16385, .inl F))] H := hP
    replace hD : va_D A [(h0, .inr (1, [.int (zv (!true)), .int (nI nn), .ref h1])), (h1, .inl (cA, 16385, .inl F))] := hD
    subst hw
    have zl := zb_le G (32 * k)
    refine lv_goto (tgt := 24) hx hb d_M_start_20 (by decide) ?_
    exact W.iret (v := nI (zb G (32 * k))) hx hb hr (fun t9 ht9 hW9 => ⟨⟨nI (zb G (32 * k)), (true, F, G), rfl, ⟨hF, Or.inl ⟨rfl, k, k1, rfl, rfl, rfl⟩⟩, by rw [ht9]; exact hP, va_K.moved hW9.alike hK, hD⟩, hS.F ht9⟩) hS.2.2 d_M_start_24
set_option maxHeartbeats 4000000 in
set_option maxRecDepth 100000 in
/-- M_cut -/
theorem cM_cut (l : Launch) (dC : Nat → ClassId) (dI : Nat → Nat → Nat) (h0 h1 : Nat) (cA : ClassId) (sz : Nat) (F : Nat → Int32) (G : Nat → Bool) (nn : Nat) (th : Int32) (hF : MF F G) (x : Int32) (g1 : nn ≤ 16384) (g2 : G 0 = true) (g3 : G nn = true) : Met l y_M_cut ws_M_cut ({ frames := 1, cells := 0, slots := 0, locals := 22 }) (va_Pc [.ref h0, .int x] (cc_P (dC, dI) vwCl (wM h0 h1 cA th (nI nn) F) (tM cA) sz)) (va_Qi (S := Bool × (Nat → Int32) × (Nat → Bool)) (fun (r : Int32) (u : Bool × (Nat → Int32) × (Nat → Bool)) => MF u.2.1 u.2.2 ∧ ((u.1 = true ∧ ∃ k, k < nn ∧ x = nI k ∧ r = nI (k - zb G k) ∧ u.2.2 = upG G k true) ∨ (u.1 = false ∧ (¬ ∃ k, k < nn ∧ x = nI k) ∧ u.2.2 = G))) (fun u t => cc_B (dC, dI) vwCl (tM cA) (va_A (wM h0 h1 cA th (nI nn) F) sz) ((fun u : Bool × (Nat → Int32) × (Nat → Bool) => (wM h0 h1 cA (zv (!u.1)) (nI nn) u.2.1)) u) t) (va_A (wM h0 h1 cA th (nI nn) F) sz)) 0 0 (va_A (wM h0 h1 cA th (nI nn) F) sz) := by
  refine Met.ofW (cc := c_M_cut) (maxL := 3) (ret := (some .int)) (by decide) rfl ?_
  intro p e s m args below meth c s₁ B hml hv
  obtain ⟨rfl, hsz, hP, hK, hD0⟩ := hv
  have hx := B.exec
  have hb := B.bytes
  have hr := B.returns
  have hts : ∀ w ∈ zAll, w.before _ s = true := fun w h => atoms_spec (ws := ws_M_cut) B.pre w (List.mem_cons_of_mem _ h)
  have hown : s.vm.findClass RM = some m.cls := findClass_of_methodNamed B.named
  have hlocks := B.notSynchronized
  subst hsz
  have hD := hD0.self (sz := s.heap.size)
  generalize hAe : va_A (wM h0 h1 cA th (nI nn) F) s.heap.size = A at hD ⊢
  have hA : ∀ q : Nat, s.heap.size ≤ q → A q := fun q h => by rw [← hAe]; exact Or.inr h
  have hS : va_S A s.heap s.heap [] := va_S.rf
  replace hP : va_P (dC, dI) vwCl [(h0, .inr (1, [.int th, .int (nI nn), .ref h1])), (h1, .inl (cA, 16385, .inl F))] s.heap := hP
  replace hD : va_D A [(h0, .inr (1, [.int th, .int (nI nn), .ref h1])), (h1, .inl (cA, 16385, .inl F))] := hD
  have hl := lv_entry ([.ref h0, .int x]) (n := 3) (Nat.le_of_ble_eq_true rfl)
  rw [lg_entry_eq]
  generalize (lg_sl ([.ref h0, .int x]) ++ List.replicate (3 - (lg_sl ([.ref h0, .int x])).length) Slot.unset).toArray = ls at hl ⊢
  replace hl : lv_has ls 3 [(0, .ref h0), (1, .int x)] := hl
  refine lv_aload_n hx hb d_M_cut_0 rfl (lv_at hl 0 rfl) ?_
  refine lv_aload_n hx hb d_M_cut_1 rfl (lv_at hl 0 rfl) ?_
  refine lv_iload_n hx hb d_M_cut_2 rfl (lv_at hl 1 rfl) ?_
  refine cc_Vi (wc := [(h0, .inr (1, [.int th, .int (nI nn), .ref h1])), (h1, .inl (cA, 16385, .inl F))]) (wr := []) (tys' := [(cA, .boolean)]) ⟨hx, hb, hml, hown, hts⟩ hP hD hK hS hA [0, 1] [] [0] rfl rfl rfl (by decide) (by decide) (by decide) rfl (cM_isCell l dC dI h0 h1 cA _ F G nn th hF x g1) (cwV 1 hts g_M_28 rfl rfl rfl (by decide +kernel) ⟨Nat.le_of_ble_eq_true rfl, Nat.le_of_ble_eq_true rfl⟩) 0 1 rfl rfl rfl rfl hl.1 rfl (Nat.le_of_ble_eq_true rfl) d_M_cut_3 ⟨Nat.le_of_ble_eq_true rfl, Nat.le_of_ble_eq_true rfl⟩ (fun r_9 bb H locs hw hP hD hS => ?_)
  replace hP : va_P (dC, dI) vwCl [(h0, .inr (1, [.int th, .int (nI nn), .ref h1])), (h1, .inl (cA, 16385, .inl F))] H := hP
  replace hD : va_D A [(h0, .inr (1, [.int th, .int (nI nn), .ref h1])), (h1, .inl (cA, 16385, .inl F))] := hD
  obtain ⟨rfl, hb1, hb2⟩ := hw
  refine cc_Vi (wc := [(h0, .inr (1, [.int th, .int (nI nn), .ref h1])), (h1, .inl (cA, 16385, .inl F))]) (wr := []) (tys' := [(cA, .boolean)]) ⟨hx, hb, hml, hown, hts⟩ hP hD hK hS hA [0, 1] [] [0] rfl rfl rfl (by decide) (by decide) (by decide) rfl (cM_goes l dC dI h0 h1 cA _ F G nn th hF bb) (cwV 1 hts g_M_24 rfl rfl rfl (by decide +kernel) ⟨Nat.le_of_ble_eq_true rfl, Nat.le_of_ble_eq_true rfl⟩) 0 1 rfl rfl rfl rfl hl.1 rfl (Nat.le_of_ble_eq_true rfl) d_M_cut_6 ⟨Nat.le_of_ble_eq_true rfl, Nat.le_of_ble_eq_true rfl⟩ (fun r_9 u9 H locs hw9 hP hD hS => ?_)
  replace hP : va_P (dC, dI) vwCl [(h0, .inr (1, [.int (zv (!bb)), .int (nI nn), .ref h1])), (h1, .inl (cA, 16385, .inl F))] H := hP
  replace hD : va_D A [(h0, .inr (1, [.int (zv (!bb)), .int (nI nn), .ref h1])), (h1, .inl (cA, 16385, .inl F))] := hD
  subst hw9
  refine lv_if_ne (tgt := 14) hx hb d_M_cut_9 (by decide) (fun c1 => ?_) (fun c1 => ?_)
  · have eb : bb = true := zv_t c1
    subst eb
    obtain ⟨k, k1, rfl⟩ := hb1 rfl
    refine lv_iload_n hx hb d_M_cut_14 rfl (lv_at hl 1 rfl) ?_
    refine lv_aload_n hx hb d_M_cut_15 rfl (lv_at hl 0 rfl) ?_
    refine lv_iload_n hx hb d_M_cut_16 rfl (lv_at hl 1 rfl) ?_
    refine cc_Vi (wc := [(h0, .inr (1, [.int (zv (!true)), .int (nI nn), .ref h1])), (h1, .inl (cA, 16385, .inl F))]) (wr := []) (tys' := [(cA, .boolean)]) ⟨hx, hb, hml, hown, hts⟩ hP hD hK hS hA [0, 1] [] [0] rfl rfl rfl (by decide) (by decide) (by decide) rfl (cM_from l dC dI h0 h1 cA _ F G nn (zv (!true)) hF k (by omega) g2) (cwV 1 hts g_M_32 rfl rfl rfl (by decide +kernel) ⟨Nat.le_of_ble_eq_true rfl, Nat.le_of_ble_eq_true rfl⟩) 0 1 rfl rfl rfl rfl hl.1 rfl (Nat.le_of_ble_eq_true rfl) d_M_cut_17 ⟨Nat.le_of_ble_eq_true rfl, Nat.le_of_ble_eq_true rfl⟩ (fun r_9 u H locs hw hP hD hS => ?_)
    replace hP : va_P (dC, dI) vwCl [(h0, .inr (1, [.int (zv (!true)), .int (nI nn), .ref h1])), (h1, .inl (cA, 16385, .inl F))] H := hP
    replace hD : va_D A [(h0, .inr (1, [.int (zv (!true)), .int (nI nn), .ref h1])), (h1, .inl (cA, 16385, .inl F))] := hD
    subst hw
    have zl := zb_le G k
    refine lv_isub hx hb d_M_cut_20 ?_
    refine lv_topi (nm_r (show _ = nI (k - (zb G k)) from pk_sub (by omega)) ?_)
    refine lv_istore_n (lv' := [(2, .int (nI (k - (zb G k)))), (0, .ref h0), (1, .int (nI k))]) hx hb d_M_cut_21 rfl hl (by decide) rfl (fun ls hl => ?_)
    refine lv_aload_n hx hb d_M_cut_22 rfl (lv_at hl 1 rfl) ?_
    refine va_get (D := (dC, dI)) (ci := 1) (v := .ref h1) (C := RM) (T := TM) (N := 3) hx hb hts inM hown hK hP 0 rfl rfl 2 (by decide) (hts _ wl_M_13) (fun _ h9 => h9) rfl d_M_cut_23 ?_
    refine lv_iload_n hx hb d_M_cut_26 rfl (lv_at hl 2 rfl) ?_
    refine lv_iconst (v := nI 1) hx hb d_M_cut_27 (by decide) ?_
    refine va_zast hx hb hK hP hD hS 1 0 rfl rfl (vp_in_nI (by omega) (by decide)) d_M_cut_28 (fun H locs hP hD hS => ?_)
    rw [nI_clamp (by omega)] at hP hD
    rw [show vp_nar .boolean (nI 1) = nI 1 from by decide +kernel] at hP hD
    replace hP : va_P (dC, dI) vwCl [(h0, .inr (1, [.int (zv (!true)), .int (nI nn), .ref h1])), (h1, .inl (cA, 16385, .inl (upd F k (nI 1))))] H := hP
    replace hD : va_D A [(h0, .inr (1, [.int (zv (!true)), .int (nI nn), .ref h1])), (h1, .inl (cA, 16385, .inl (upd F k (nI 1))))] := hD
    refine lv_iload_n hx hb d_M_cut_29 rfl (lv_at hl 0 rfl) ?_
    exact W.iret (v := nI (k - (zb G k))) hx hb hr (fun t9 ht9 hW9 => ⟨⟨nI (k - (zb G k)), (true, upd F k (nI 1), upG G k true), rfl, ⟨MF_up (b := true) hF, Or.inl ⟨rfl, k, k1, rfl, rfl, rfl⟩⟩, by rw [ht9]; exact hP, va_K.moved hW9.alike hK, hD⟩, hS.F ht9⟩) hS.2.2 d_M_cut_30
  · have eb : bb = false := zv_f c1
    subst eb
    refine lv_iconst (v := nI 0) hx hb d_M_cut_12 (by decide) ?_
    exact W.iret (v := nI 0) hx hb hr (fun t9 ht9 hW9 => ⟨⟨nI 0, (false, F, G), rfl, ⟨hF, Or.inr ⟨rfl, hb2 rfl, rfl⟩⟩, by rw [ht9]; exact hP, va_K.moved hW9.alike hK, hD⟩, hS.F ht9⟩) hS.2.2 d_M_cut_13
set_option maxHeartbeats 4000000 in
set_option maxRecDepth 100000 in
/-- M_join -/
theorem cM_join (l : Launch) (dC : Nat → ClassId) (dI : Nat → Nat → Nat) (h0 h1 : Nat) (cA : ClassId) (sz : Nat) (F : Nat → Int32) (G : Nat → Bool) (nn : Nat) (th : Int32) (hF : MF F G) (x : Int32) (g1 : nn ≤ 16384) (g2 : G 0 = true) (g3 : G nn = true) : Met l y_M_join ws_M_join ({ frames := 1, cells := 0, slots := 0, locals := 22 }) (va_Pc [.ref h0, .int x] (cc_P (dC, dI) vwCl (wM h0 h1 cA th (nI nn) F) (tM cA) sz)) (va_Qi (S := Bool × (Nat → Int32) × (Nat → Bool)) (fun (r : Int32) (u : Bool × (Nat → Int32) × (Nat → Bool)) => MF u.2.1 u.2.2 ∧ ((u.1 = true ∧ ∃ k, k < nn ∧ x = nI k ∧ ((zn G nn (k + 1) = nn ∧ r = nI 0 ∧ u.2.2 = G) ∨ (zn G nn (k + 1) < nn ∧ r = nI (zn (upG G (zn G nn (k + 1)) false) nn (k + 1) - zb (upG G (zn G nn (k + 1)) false) k) ∧ u.2.2 = upG G (zn G nn (k + 1)) false))) ∨ (u.1 = false ∧ (¬ ∃ k, k < nn ∧ x = nI k) ∧ u.2.2 = G))) (fun u t => cc_B (dC, dI) vwCl (tM cA) (va_A (wM h0 h1 cA th (nI nn) F) sz) ((fun u : Bool × (Nat → Int32) × (Nat → Bool) => (wM h0 h1 cA (zv (!u.1)) (nI nn) u.2.1)) u) t) (va_A (wM h0 h1 cA th (nI nn) F) sz)) 0 0 (va_A (wM h0 h1 cA th (nI nn) F) sz) := by
  refine Met.ofW (cc := c_M_join) (maxL := 3) (ret := (some .int)) (by decide) rfl ?_
  intro p e s m args below meth c s₁ B hml hv
  obtain ⟨rfl, hsz, hP, hK, hD0⟩ := hv
  have hx := B.exec
  have hb := B.bytes
  have hr := B.returns
  have hts : ∀ w ∈ zAll, w.before _ s = true := fun w h => atoms_spec (ws := ws_M_join) B.pre w (List.mem_cons_of_mem _ h)
  have hown : s.vm.findClass RM = some m.cls := findClass_of_methodNamed B.named
  have hlocks := B.notSynchronized
  subst hsz
  have hD := hD0.self (sz := s.heap.size)
  generalize hAe : va_A (wM h0 h1 cA th (nI nn) F) s.heap.size = A at hD ⊢
  have hA : ∀ q : Nat, s.heap.size ≤ q → A q := fun q h => by rw [← hAe]; exact Or.inr h
  have hS : va_S A s.heap s.heap [] := va_S.rf
  replace hP : va_P (dC, dI) vwCl [(h0, .inr (1, [.int th, .int (nI nn), .ref h1])), (h1, .inl (cA, 16385, .inl F))] s.heap := hP
  replace hD : va_D A [(h0, .inr (1, [.int th, .int (nI nn), .ref h1])), (h1, .inl (cA, 16385, .inl F))] := hD
  have hl := lv_entry ([.ref h0, .int x]) (n := 3) (Nat.le_of_ble_eq_true rfl)
  rw [lg_entry_eq]
  generalize (lg_sl ([.ref h0, .int x]) ++ List.replicate (3 - (lg_sl ([.ref h0, .int x])).length) Slot.unset).toArray = ls at hl ⊢
  replace hl : lv_has ls 3 [(0, .ref h0), (1, .int x)] := hl
  refine lv_aload_n hx hb d_M_join_0 rfl (lv_at hl 0 rfl) ?_
  refine lv_aload_n hx hb d_M_join_1 rfl (lv_at hl 0 rfl) ?_
  refine lv_iload_n hx hb d_M_join_2 rfl (lv_at hl 1 rfl) ?_
  refine cc_Vi (wc := [(h0, .inr (1, [.int th, .int (nI nn), .ref h1])), (h1, .inl (cA, 16385, .inl F))]) (wr := []) (tys' := [(cA, .boolean)]) ⟨hx, hb, hml, hown, hts⟩ hP hD hK hS hA [0, 1] [] [0] rfl rfl rfl (by decide) (by decide) (by decide) rfl (cM_isCell l dC dI h0 h1 cA _ F G nn th hF x g1) (cwV 1 hts g_M_28 rfl rfl rfl (by decide +kernel) ⟨Nat.le_of_ble_eq_true rfl, Nat.le_of_ble_eq_true rfl⟩) 0 1 rfl rfl rfl rfl hl.1 rfl (Nat.le_of_ble_eq_true rfl) d_M_join_3 ⟨Nat.le_of_ble_eq_true rfl, Nat.le_of_ble_eq_true rfl⟩ (fun r_9 bb H locs hw hP hD hS => ?_)
  replace hP : va_P (dC, dI) vwCl [(h0, .inr (1, [.int th, .int (nI nn), .ref h1])), (h1, .inl (cA, 16385, .inl F))] H := hP
  replace hD : va_D A [(h0, .inr (1, [.int th, .int (nI nn), .ref h1])), (h1, .inl (cA, 16385, .inl F))] := hD
  obtain ⟨rfl, hb1, hb2⟩ := hw
  refine cc_Vi (wc := [(h0, .inr (1, [.int th, .int (nI nn), .ref h1])), (h1, .inl (cA, 16385, .inl F))]) (wr := []) (tys' := [(cA, .boolean)]) ⟨hx, hb, hml, hown, hts⟩ hP hD hK hS hA [0, 1] [] [0] rfl rfl rfl (by decide) (by decide) (by decide) rfl (cM_goes l dC dI h0 h1 cA _ F G nn th hF bb) (cwV 1 hts g_M_24 rfl rfl rfl (by decide +kernel) ⟨Nat.le_of_ble_eq_true rfl, Nat.le_of_ble_eq_true rfl⟩) 0 1 rfl rfl rfl rfl hl.1 rfl (Nat.le_of_ble_eq_true rfl) d_M_join_6 ⟨Nat.le_of_ble_eq_true rfl, Nat.le_of_ble_eq_true rfl⟩ (fun r_9 u9 H locs hw9 hP hD hS => ?_)
  replace hP : va_P (dC, dI) vwCl [(h0, .inr (1, [.int (zv (!bb)), .int (nI nn), .ref h1])), (h1, .inl (cA, 16385, .inl F))] H := hP
  replace hD : va_D A [(h0, .inr (1, [.int (zv (!bb)), .int (nI nn), .ref h1])), (h1, .inl (cA, 16385, .inl F))] := hD
  subst hw9
  refine lv_if_ne (tgt := 14) hx hb d_M_join_9 (by decide) (fun c1 => ?_) (fun c1 => ?_)
  · have eb : bb = true := zv_t c1
    subst eb
    obtain ⟨k, k1, rfl⟩ := hb1 rfl
    refine lv_aload_n hx hb d_M_join_14 rfl (lv_at hl 0 rfl) ?_
    refine lv_iload_n hx hb d_M_join_15 rfl (lv_at hl 1 rfl) ?_
    refine cc_Vi (wc := [(h0, .inr (1, [.int (zv (!true)), .int (nI nn), .ref h1])), (h1, .inl (cA, 16385, .inl F))]) (wr := []) (tys' := [(cA, .boolean)]) ⟨hx, hb, hml, hown, hts⟩ hP hD hK hS hA [0, 1] [] [0] rfl rfl rfl (by decide) (by decide) (by decide) rfl (cM_behind l dC dI h0 h1 cA _ F G nn (zv (!true)) hF k (by omega) g1 g3) (cwV 1 hts g_M_36 rfl rfl rfl (by decide +kernel) ⟨Nat.le_of_ble_eq_true rfl, Nat.le_of_ble_eq_true rfl⟩) 0 1 rfl rfl rfl rfl hl.1 rfl (Nat.le_of_ble_eq_true rfl) d_M_join_16 ⟨Nat.le_of_ble_eq_true rfl, Nat.le_of_ble_eq_true rfl⟩ (fun r_9 u H locs hw hP hD hS => ?_)
    replace hP : va_P (dC, dI) vwCl [(h0, .inr (1, [.int (zv (!true)), .int (nI nn), .ref h1])), (h1, .inl (cA, 16385, .inl F))] H := hP
    replace hD : va_D A [(h0, .inr (1, [.int (zv (!true)), .int (nI nn), .ref h1])), (h1, .inl (cA, 16385, .inl F))] := hD
    subst hw
    have zg1 := zn_ge G nn (k + 1)
    have zh1 : zn G nn (k + 1) ≤ nn := zn_le (by omega)
    refine lv_istore_n (lv' := [(2, .int (nI (zn G nn (k + 1)))), (0, .ref h0), (1, .int (nI k))]) hx hb d_M_join_19 rfl hl (by decide) rfl (fun ls hl => ?_)
    refine lv_iload_n hx hb d_M_join_20 rfl (lv_at hl 0 rfl) ?_
    refine lv_aload_n hx hb d_M_join_21 rfl (lv_at hl 1 rfl) ?_
    refine va_get (D := (dC, dI)) (ci := 1) (v := .int (nI nn)) (C := RM) (T := TM) (N := 3) hx hb hts inM hown hK hP 0 rfl rfl 1 (by decide) (hts _ wl_M_7) (fun _ h9 => h9) rfl d_M_join_22 ?_
    refine lv_icmp_ne (tgt := 30) hx hb d_M_join_25 (by decide) (fun c2 => ?_) (fun c2 => ?_)
    · replace c2 : ¬ (zn G nn (k + 1) = nn) := fun h9 => c2 ((nI_eq (a := zn G nn (k + 1)) (b := nn) (by omega) (by omega)).mpr h9)
      refine lv_aload_n hx hb d_M_join_30 rfl (lv_at hl 1 rfl) ?_
      refine va_get (D := (dC, dI)) (ci := 1) (v := .ref h1) (C := RM) (T := TM) (N := 3) hx hb hts inM hown hK hP 0 rfl rfl 2 (by decide) (hts _ wl_M_13) (fun _ h9 => h9) rfl d_M_join_31 ?_
      refine lv_iload_n hx hb d_M_join_34 rfl (lv_at hl 0 rfl) ?_
      refine lv_iconst (v := nI 0) hx hb d_M_join_35 (by decide) ?_
      refine va_zast hx hb hK hP hD hS 1 0 rfl rfl (vp_in_nI (by omega) (by decide)) d_M_join_36 (fun H locs hP hD hS => ?_)
      rw [nI_clamp (by omega)] at hP hD
      rw [show vp_nar .boolean (nI 0) = nI 0 from by decide +kernel] at hP hD
      replace hP : va_P (dC, dI) vwCl [(h0, .inr (1, [.int (zv (!true)), .int (nI nn), .ref h1])), (h1, .inl (cA, 16385, .inl (upd F (zn G nn (k + 1)) (nI 0))))] H := hP
      replace hD : va_D A [(h0, .inr (1, [.int (zv (!true)), .int (nI nn), .ref h1])), (h1, .inl (cA, 16385, .inl (upd F (zn G nn (k + 1)) (nI 0))))] := hD
      refine lv_aload_n hx hb d_M_join_37 rfl (lv_at hl 1 rfl) ?_
      refine lv_iload_n hx hb d_M_join_38 rfl (lv_at hl 2 rfl) ?_
      have hF2 : MF (upd F (zn G nn (k + 1)) (nI 0)) (upG G (zn G nn (k + 1)) false) := MF_up (b := false) hF
      refine cc_Vi (wc := [(h0, .inr (1, [.int (zv (!true)), .int (nI nn), .ref h1])), (h1, .inl (cA, 16385, .inl (upd F (zn G nn (k + 1)) (nI 0))))]) (wr := []) (tys' := [(cA, .boolean)]) ⟨hx, hb, hml, hown, hts⟩ hP hD hK hS hA [0, 1] [] [0] rfl rfl rfl (by decide) (by decide) (by decide) rfl (cM_behind l dC dI h0 h1 cA _ (upd F (zn G nn (k + 1)) (nI 0)) (upG G (zn G nn (k + 1)) false) nn (zv (!true)) hF2 k k1 g1 (by rw [upG_ne (by omega)]; exact g3)) (cwV 1 hts g_M_36 rfl rfl rfl (by decide +kernel) ⟨Nat.le_of_ble_eq_true rfl, Nat.le_of_ble_eq_true rfl⟩) 0 1 rfl rfl rfl rfl hl.1 rfl (Nat.le_of_ble_eq_true rfl) d_M_join_39 ⟨Nat.le_of_ble_eq_true rfl, Nat.le_of_ble_eq_true rfl⟩ (fun r_9 u H locs hw hP hD hS => ?_)
      replace hP : va_P (dC, dI) vwCl [(h0, .inr (1, [.int (zv (!true)), .int (nI nn), .ref h1])), (h1, .inl (cA, 16385, .inl (upd F (zn G nn (k + 1)) (nI 0))))] H := hP
      replace hD : va_D A [(h0, .inr (1, [.int (zv (!true)), .int (nI nn), .ref h1])), (h1, .inl (cA, 16385, .inl (upd F (zn G nn (k + 1)) (nI 0))))] := hD
      subst hw
      have zg2 := zn_ge (upG G (zn G nn (k + 1)) false) nn (k + 1)
      have zh2 : zn (upG G (zn G nn (k + 1)) false) nn (k + 1) ≤ nn := zn_le (by omega)
      refine lv_aload_n hx hb d_M_join_42 rfl (lv_at hl 1 rfl) ?_
      refine lv_iload_n hx hb d_M_join_43 rfl (lv_at hl 2 rfl) ?_
      refine cc_Vi (wc := [(h0, .inr (1, [.int (zv (!true)), .int (nI nn), .ref h1])), (h1, .inl (cA, 16385, .inl (upd F (zn G nn (k + 1)) (nI 0))))]) (wr := []) (tys' := [(cA, .boolean)]) ⟨hx, hb, hml, hown, hts⟩ hP hD hK hS hA [0, 1] [] [0] rfl rfl rfl (by decide) (by decide) (by decide) rfl (cM_from l dC dI h0 h1 cA _ (upd F (zn G nn (k + 1)) (nI 0)) (upG G (zn G nn (k + 1)) false) nn (zv (!true)) hF2 k (by omega) (by rw [upG_ne (by omega)]; exact g2)) (cwV 1 hts g_M_32 rfl rfl rfl (by decide +kernel) ⟨Nat.le_of_ble_eq_true rfl, Nat.le_of_ble_eq_true rfl⟩) 0 1 rfl rfl rfl rfl hl.1 rfl (Nat.le_of_ble_eq_true rfl) d_M_join_44 ⟨Nat.le_of_ble_eq_true rfl, Nat.le_of_ble_eq_true rfl⟩ (fun r_9 u H locs hw hP hD hS => ?_)
      replace hP : va_P (dC, dI) vwCl [(h0, .inr (1, [.int (zv (!true)), .int (nI nn), .ref h1])), (h1, .inl (cA, 16385, .inl (upd F (zn G nn (k + 1)) (nI 0))))] H := hP
      replace hD : va_D A [(h0, .inr (1, [.int (zv (!true)), .int (nI nn), .ref h1])), (h1, .inl (cA, 16385, .inl (upd F (zn G nn (k + 1)) (nI 0))))] := hD
      subst hw
      have zl := zb_le (upG G (zn G nn (k + 1)) false) k
      refine lv_isub hx hb d_M_join_47 ?_
      refine lv_topi (nm_r (show _ = nI ((zn (upG G (zn G nn (k + 1)) false) nn (k + 1)) - (zb (upG G (zn G nn (k + 1)) false) k)) from pk_sub (by omega)) ?_)
      exact W.iret (v := nI ((zn (upG G (zn G nn (k + 1)) false) nn (k + 1)) - (zb (upG G (zn G nn (k + 1)) false) k))) hx hb hr (fun t9 ht9 hW9 => ⟨⟨nI ((zn (upG G (zn G nn (k + 1)) false) nn (k + 1)) - (zb (upG G (zn G nn (k + 1)) false) k)), (true, upd F (zn G nn (k + 1)) (nI 0), upG G (zn G nn (k + 1)) false), rfl, ⟨hF2, Or.inl ⟨rfl, k, k1, rfl, Or.inr ⟨by omega, rfl, rfl⟩⟩⟩, by rw [ht9]; exact hP, va_K.moved hW9.alike hK, hD⟩, hS.F ht9⟩) hS.2.2 d_M_join_48
    · replace c2 : zn G nn (k + 1) = nn := (nI_eq (a := zn G nn (k + 1)) (b := nn) (by omega) (by omega)).mp c2
      refine lv_iconst (v := nI 0) hx hb d_M_join_28 (by decide) ?_
      exact W.iret (v := nI 0) hx hb hr (fun t9 ht9 hW9 => ⟨⟨nI 0, (true, F, G), rfl, ⟨hF, Or.inl ⟨rfl, k, k1, rfl, Or.inl ⟨c2, rfl, rfl⟩⟩⟩, by rw [ht9]; exact hP, va_K.moved hW9.alike hK, hD⟩, hS.F ht9⟩) hS.2.2 d_M_join_29
  · have eb : bb = false := zv_f c1
    subst eb
    refine lv_iconst (v := nI 0) hx hb d_M_join_12 (by decide) ?_
    exact W.iret (v := nI 0) hx hb hr (fun t9 ht9 hW9 => ⟨⟨nI 0, (false, F, G), rfl, ⟨hF, Or.inr ⟨rfl, hb2 rfl, rfl⟩⟩, by rw [ht9]; exact hP, va_K.moved hW9.alike hK, hD⟩, hS.F ht9⟩) hS.2.2 d_M_join_13
set_option maxHeartbeats 4000000 in
set_option maxRecDepth 100000 in
/-- M_begins -/
theorem cM_begins (l : Launch) (dC : Nat → ClassId) (dI : Nat → Nat → Nat) (h0 h1 : Nat) (cA : ClassId) (sz : Nat) (F : Nat → Int32) (G : Nat → Bool) (nn : Nat) (th : Int32) (hF : MF F G) (x : Int32) (g1 : nn ≤ 16384) (g2 : G 0 = true) (g3 : G nn = true) : Met l y_M_begins ws_M_begins ({ frames := 2, cells := 0, slots := 0, locals := 41 }) (va_Pc [.ref h0, .int x] (cc_P (dC, dI) vwCl (wM h0 h1 cA th (nI nn) F) (tM cA) sz)) (va_Qi (S := Bool × (Nat → Int32) × (Nat → Bool)) (fun (r : Int32) (u : Bool × (Nat → Int32) × (Nat → Bool)) => MF u.2.1 u.2.2 ∧ ((u.1 = true ∧ ∃ k, k < (nn + 31) / 32 ∧ x = nI k ∧ r = nI (zc (fun j => G (32 * k + j)) (min 32 (nn - 32 * k))) ∧ u.2.2 = G) ∨ (u.1 = false ∧ (¬ ∃ k, k < (nn + 31) / 32 ∧ x = nI k) ∧ u.2.2 = G))) (fun u t => cc_B (dC, dI) vwCl (tM cA) (va_A (wM h0 h1 cA th (nI nn) F) sz) ((fun u : Bool × (Nat → Int32) × (Nat → Bool) => (wM h0 h1 cA (zv (!u.1)) (nI nn) u.2.1)) u) t) (va_A (wM h0 h1 cA th (nI nn) F) sz)) 0 0 (va_A (wM h0 h1 cA th (nI nn) F) sz) := by
  refine Met.ofW (cc := c_M_begins) (maxL := 4) (ret := (some .int)) (by decide) rfl ?_
  intro p e s m args below meth c s₁ B hml hv
  obtain ⟨rfl, hsz, hP, hK, hD0⟩ := hv
  have hx := B.exec
  have hb := B.bytes
  have hr := B.returns
  have hts : ∀ w ∈ zAll, w.before _ s = true := fun w h => atoms_spec (ws := ws_M_begins) B.pre w (List.mem_cons_of_mem _ h)
  have hown : s.vm.findClass RM = some m.cls := findClass_of_methodNamed B.named
  have hlocks := B.notSynchronized
  subst hsz
  have hD := hD0.self (sz := s.heap.size)
  generalize hAe : va_A (wM h0 h1 cA th (nI nn) F) s.heap.size = A at hD ⊢
  have hA : ∀ q : Nat, s.heap.size ≤ q → A q := fun q h => by rw [← hAe]; exact Or.inr h
  have hS : va_S A s.heap s.heap [] := va_S.rf
  replace hP : va_P (dC, dI) vwCl [(h0, .inr (1, [.int th, .int (nI nn), .ref h1])), (h1, .inl (cA, 16385, .inl F))] s.heap := hP
  replace hD : va_D A [(h0, .inr (1, [.int th, .int (nI nn), .ref h1])), (h1, .inl (cA, 16385, .inl F))] := hD
  have hl := lv_entry ([.ref h0, .int x]) (n := 4) (Nat.le_of_ble_eq_true rfl)
  rw [lg_entry_eq]
  generalize (lg_sl ([.ref h0, .int x]) ++ List.replicate (4 - (lg_sl ([.ref h0, .int x])).length) Slot.unset).toArray = ls at hl ⊢
  replace hl : lv_has ls 4 [(0, .ref h0), (1, .int x)] := hl
  refine lv_aload_n hx hb d_M_begins_0 rfl (lv_at hl 0 rfl) ?_
  refine lv_aload_n hx hb d_M_begins_1 rfl (lv_at hl 0 rfl) ?_
  refine lv_iload_n hx hb d_M_begins_2 rfl (lv_at hl 1 rfl) ?_
  refine cc_Vi (wc := [(h0, .inr (1, [.int th, .int (nI nn), .ref h1])), (h1, .inl (cA, 16385, .inl F))]) (wr := []) (tys' := [(cA, .boolean)]) ⟨hx, hb, hml, hown, hts⟩ hP hD hK hS hA [0, 1] [] [0] rfl rfl rfl (by decide) (by decide) (by decide) rfl (cM_isCard l dC dI h0 h1 cA _ F G nn th hF x g1) (cwV 1 hts g_M_42 rfl rfl rfl (by decide +kernel) ⟨Nat.le_of_ble_eq_true rfl, Nat.le_of_ble_eq_true rfl⟩) 0 1 rfl rfl rfl rfl hl.1 rfl (Nat.le_of_ble_eq_true rfl) d_M_begins_3 ⟨Nat.le_of_ble_eq_true rfl, Nat.le_of_ble_eq_true rfl⟩ (fun r_9 bb H locs hw hP hD hS => ?_)
  replace hP : va_P (dC, dI) vwCl [(h0, .inr (1, [.int th, .int (nI nn), .ref h1])), (h1, .inl (cA, 16385, .inl F))] H := hP
  replace hD : va_D A [(h0, .inr (1, [.int th, .int (nI nn), .ref h1])), (h1, .inl (cA, 16385, .inl F))] := hD
  obtain ⟨rfl, hb1, hb2⟩ := hw
  refine cc_Vi (wc := [(h0, .inr (1, [.int th, .int (nI nn), .ref h1])), (h1, .inl (cA, 16385, .inl F))]) (wr := []) (tys' := [(cA, .boolean)]) ⟨hx, hb, hml, hown, hts⟩ hP hD hK hS hA [0, 1] [] [0] rfl rfl rfl (by decide) (by decide) (by decide) rfl (cM_goes l dC dI h0 h1 cA _ F G nn th hF bb) (cwV 1 hts g_M_24 rfl rfl rfl (by decide +kernel) ⟨Nat.le_of_ble_eq_true rfl, Nat.le_of_ble_eq_true rfl⟩) 0 1 rfl rfl rfl rfl hl.1 rfl (Nat.le_of_ble_eq_true rfl) d_M_begins_6 ⟨Nat.le_of_ble_eq_true rfl, Nat.le_of_ble_eq_true rfl⟩ (fun r_9 u9 H locs hw9 hP hD hS => ?_)
  replace hP : va_P (dC, dI) vwCl [(h0, .inr (1, [.int (zv (!bb)), .int (nI nn), .ref h1])), (h1, .inl (cA, 16385, .inl F))] H := hP
  replace hD : va_D A [(h0, .inr (1, [.int (zv (!bb)), .int (nI nn), .ref h1])), (h1, .inl (cA, 16385, .inl F))] := hD
  subst hw9
  refine lv_if_ne (tgt := 14) hx hb d_M_begins_9 (by decide) (fun c1 => ?_) (fun c1 => ?_)
  · have eb : bb = true := zv_t c1
    subst eb
    obtain ⟨k, k1, rfl⟩ := hb1 rfl
    refine lv_iconst (v := nI 0) hx hb d_M_begins_14 (by decide) ?_
    refine lv_istore_n (lv' := [(2, .int (nI 0)), (0, .ref h0), (1, .int (nI k))]) hx hb d_M_begins_15 rfl hl (by decide) rfl (fun ls hl => ?_)
    refine lv_bipush (v := nI 32) hx hb d_M_begins_16 (by decide) ?_
    refine lv_iload_n hx hb d_M_begins_18 rfl (lv_at hl 2 rfl) ?_
    refine lv_imul hx hb d_M_begins_19 ?_
    refine lv_topi (nm_r (show _ = nI (32 * k) from pk_mul _ _) ?_)
    refine lv_istore_n (lv' := [(3, .int (nI (32 * k))), (2, .int (nI 0)), (0, .ref h0), (1, .int (nI k))]) hx hb d_M_begins_20 rfl hl (by decide) rfl (fun ls hl => ?_)
    refine cc_from hP hD hS (fun H locs hP hD hS => ?_)
    obtain ⟨ci, e_ci⟩ : ∃ ci : Nat, ci = 0 := ⟨_, rfl⟩
    obtain ⟨q, e_q⟩ : ∃ q : Nat, q = 0 := ⟨_, rfl⟩
    replace hl : lv_has ls 4 [(0, .ref h0), (1, .int (nI k)), (2, .int (nI q)), (3, .int (nI (32 * k + ci)))] := by (subst e_ci; subst e_q; exact lv_sub hl [2, 3, 1, 0] rfl)
    have j1 : ci ≤ 32 := by (subst e_ci; subst e_q; exact Nat.zero_le _)
    have j3 : 32 * k + ci ≤ nn := by (subst e_ci; subst e_q; omega)
    have j2 : q = zc (fun j => G (32 * k + j)) ci := by (subst e_ci; subst e_q; rfl)
    clear e_ci e_q
    obtain ⟨f9, hf9⟩ : ∃ f9 : Nat, 32 - ci < f9 := ⟨_, Nat.lt_succ_self _⟩
    induction f9 generalizing ls H locs ci q with
    | zero => exact absurd hf9 (Nat.not_lt_zero _)
    | succ f9 ih =>
      have kq := zc_le (fun j => G (32 * k + j)) ci
      refine lv_iload_n hx hb d_M_begins_21 rfl (lv_at hl 3 rfl) ?_
      refine lv_bipush (v := nI 32) hx hb d_M_begins_22 (by decide) ?_
      refine lv_iload_n hx hb d_M_begins_24 rfl (lv_at hl 1 rfl) ?_
      refine lv_imul hx hb d_M_begins_25 ?_
      refine lv_topi (nm_r (show _ = nI (32 * k) from pk_mul _ _) ?_)
      refine lv_bipush (v := nI 32) hx hb d_M_begins_26 (by decide) ?_
      refine lv_iadd hx hb d_M_begins_28 ?_
      refine lv_topi (nm_r (show _ = nI ((32 * k) + 32) from nI_add _ _) ?_)
      refine lv_icmp_ge (tgt := 63) hx hb d_M_begins_29 (by decide) (fun c2 => ?_) (fun c2 => ?_)
      · replace c2 : (32 * k) + 32 ≤ 32 * k + ci := (nI_leI (a := (32 * k) + 32) (b := 32 * k + ci) (by omega) (by omega)).mp c2
        have ee : ci = min 32 (nn - 32 * k) := by omega
        refine lv_iload_n hx hb d_M_begins_63 rfl (lv_at hl 2 rfl) ?_
        exact W.iret (v := nI q) hx hb hr (fun t9 ht9 hW9 => ⟨⟨nI q, (true, F, G), rfl, ⟨hF, Or.inl ⟨rfl, k, k1, rfl, by rw [← ee, ← j2], rfl⟩⟩, by rw [ht9]; exact hP, va_K.moved hW9.alike hK, hD⟩, hS.F ht9⟩) hS.2.2 d_M_begins_64
      · replace c2 : ¬ ((32 * k) + 32 ≤ 32 * k + ci) := fun h9 => c2 ((nI_leI (a := (32 * k) + 32) (b := 32 * k + ci) (by omega) (by omega)).mpr h9)
        refine lv_iload_n hx hb d_M_begins_32 rfl (lv_at hl 3 rfl) ?_
        refine lv_aload_n hx hb d_M_begins_33 rfl (lv_at hl 0 rfl) ?_
        refine va_get (D := (dC, dI)) (ci := 1) (v := .int (nI nn)) (C := RM) (T := TM) (N := 3) hx hb hts inM hown hK hP 0 rfl rfl 1 (by decide) (hts _ wl_M_7) (fun _ h9 => h9) rfl d_M_begins_34 ?_
        refine lv_icmp_ge (tgt := 63) hx hb d_M_begins_37 (by decide) (fun c3 => ?_) (fun c3 => ?_)
        · replace c3 : nn ≤ 32 * k + ci := (nI_leI (a := nn) (b := 32 * k + ci) (by omega) (by omega)).mp c3
          have ee : ci = min 32 (nn - 32 * k) := by omega
          refine lv_iload_n hx hb d_M_begins_63 rfl (lv_at hl 2 rfl) ?_
          exact W.iret (v := nI q) hx hb hr (fun t9 ht9 hW9 => ⟨⟨nI q, (true, F, G), rfl, ⟨hF, Or.inl ⟨rfl, k, k1, rfl, by rw [← ee, ← j2], rfl⟩⟩, by rw [ht9]; exact hP, va_K.moved hW9.alike hK, hD⟩, hS.F ht9⟩) hS.2.2 d_M_begins_64
        · replace c3 : ¬ (nn ≤ 32 * k + ci) := fun h9 => c3 ((nI_leI (a := nn) (b := 32 * k + ci) (by omega) (by omega)).mpr h9)
          refine lv_aload_n hx hb d_M_begins_40 rfl (lv_at hl 0 rfl) ?_
          refine va_get (D := (dC, dI)) (ci := 1) (v := .ref h1) (C := RM) (T := TM) (N := 3) hx hb hts inM hown hK hP 0 rfl rfl 2 (by decide) (hts _ wl_M_13) (fun _ h9 => h9) rfl d_M_begins_41 ?_
          refine lv_iload_n hx hb d_M_begins_44 rfl (lv_at hl 3 rfl) ?_
          refine va_zald hx hb hK hP 1 0 rfl rfl (vp_in_nI (by omega) (by decide)) d_M_begins_45 ?_
          refine lv_topi (nm_r (show _ = F (32 * k + ci) from by rw [nI_clamp (by omega)]) ?_)
          refine lv_if_eq (tgt := 55) hx hb d_M_begins_46 (by decide) (fun c4 => ?_) (fun c4 => ?_)
          · have gf : G (32 * k + ci) = false := zv_f (by rw [← hF (32 * k + ci) (by omega)]; exact c4)
            have j4 : q = zc (fun j => G (32 * k + j)) (ci + 1) := by (rw [zc_s, j2]; simp [gf])
            refine lv_iload_n hx hb d_M_begins_55 rfl (lv_at hl 2 rfl) ?_
            refine lv_istore_n (lv' := [(2, .int (nI q)), (0, .ref h0), (1, .int (nI k)), (3, .int (nI (32 * k + ci)))]) hx hb d_M_begins_56 rfl hl (by decide) rfl (fun ls hl => ?_)
            refine lv_iinc (v := nI ((32 * k + ci) + 1)) (lv' := [(3, .int (nI ((32 * k + ci) + 1))), (2, .int (nI q)), (0, .ref h0), (1, .int (nI k))]) hx hb d_M_begins_57 hl (k := 3) rfl (nI_1 _) (by decide) rfl (fun ls hl => ?_)
            refine lv_goto (tgt := 21) hx hb d_M_begins_60 (by decide) ?_
            rw [show 32 * k + ci + 1 = 32 * k + (ci + 1) from Nat.add_assoc _ _ _] at hl
            apply ih (ls := ls) (H := H) (locs := locs) (ci := ci + 1) (q := q) <;> first | assumption | exact lv_sub hl [2, 3, 1, 0] rfl | omega
          · have gt : G (32 * k + ci) = true := zv_t (by rw [← hF (32 * k + ci) (by omega)]; exact c4)
            have j4 : q + 1 = zc (fun j => G (32 * k + j)) (ci + 1) := by (rw [zc_s, j2]; simp [gt])
            refine lv_iload_n hx hb d_M_begins_49 rfl (lv_at hl 2 rfl) ?_
            refine lv_iconst (v := nI 1) hx hb d_M_begins_50 (by decide) ?_
            refine lv_iadd hx hb d_M_begins_51 ?_
            refine lv_topi (nm_r (show _ = nI (q + 1) from nI_add _ _) ?_)
            refine lv_goto (tgt := 56) hx hb d_M_begins_52 (by decide) ?_
            refine lv_istore_n (lv' := [(2, .int (nI (q + 1))), (0, .ref h0), (1, .int (nI k)), (3, .int (nI (32 * k + ci)))]) hx hb d_M_begins_56 rfl hl (by decide) rfl (fun ls hl => ?_)
            refine lv_iinc (v := nI ((32 * k + ci) + 1)) (lv' := [(3, .int (nI ((32 * k + ci) + 1))), (2, .int (nI (q + 1))), (0, .ref h0), (1, .int (nI k))]) hx hb d_M_begins_57 hl (k := 3) rfl (nI_1 _) (by decide) rfl (fun ls hl => ?_)
            refine lv_goto (tgt := 21) hx hb d_M_begins_60 (by decide) ?_
            rw [show 32 * k + ci + 1 = 32 * k + (ci + 1) from Nat.add_assoc _ _ _] at hl
            apply ih (ls := ls) (H := H) (locs := locs) (ci := ci + 1) (q := q + 1) <;> first | assumption | exact lv_sub hl [2, 3, 1, 0] rfl | omega
  · have eb : bb = false := zv_f c1
    subst eb
    refine lv_iconst (v := nI 0) hx hb d_M_begins_12 (by decide) ?_
    exact W.iret (v := nI 0) hx hb hr (fun t9 ht9 hW9 => ⟨⟨nI 0, (false, F, G), rfl, ⟨hF, Or.inr ⟨rfl, hb2 rfl, rfl⟩⟩, by rw [ht9]; exact hP, va_K.moved hW9.alike hK, hD⟩, hS.F ht9⟩) hS.2.2 d_M_begins_13
