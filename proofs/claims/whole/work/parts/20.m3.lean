set_option maxHeartbeats 4000000 in
set_option maxRecDepth 100000 in
/-- space(x) -/
theorem cM_space (l : Launch) (dC : Nat → ClassId) (dI : Nat → Nat → Nat) (h0 h1 : Nat) (cA : ClassId) (sz : Nat) (F : Nat → Int32) (G : Nat → Bool) (nn : Nat) (th : Int32) (hF : MF F G) (x : Int32) (g1 : nn ≤ 16384) (g2 : G 0 = true) (g3 : G nn = true) : Met l y_M_space ws_M_space ({ frames := 1, cells := 0, slots := 0, locals := 21 }) (va_Pc [.ref h0, .int x] (cc_P (dC, dI) vwCl (wM h0 h1 cA th (nI nn) F) (tM cA) sz)) (va_Qi (S := Bool × Nat × (Nat → Int32) × (Nat → Bool)) (fun (r : Int32) (u : Bool × Nat × (Nat → Int32) × (Nat → Bool)) => MF u.2.2.1 u.2.2.2 ∧ ((u.1 = true ∧ x = nI u.2.1 ∧ 1 ≤ u.2.1 ∧ u.2.1 ≤ 16384 ∧ r = nI nn ∧ ∀ j, j < 16385 → u.2.2.2 j = decide (j = 0 ∨ j = u.2.1)) ∨ (u.1 = false ∧ ¬ (∃ k, x = nI k ∧ 1 ≤ k ∧ k ≤ 16384) ∧ u.2.1 = nn ∧ u.2.2.2 = G))) (fun u t => cc_B (dC, dI) vwCl (tM cA) (va_A (wM h0 h1 cA th (nI nn) F) sz) ((fun u : Bool × Nat × (Nat → Int32) × (Nat → Bool) => (wM h0 h1 cA (zv (!u.1)) (nI u.2.1) u.2.2.1)) u) t) (va_A (wM h0 h1 cA th (nI nn) F) sz)) 0 0 (va_A (wM h0 h1 cA th (nI nn) F) sz) := by
  refine Met.ofW (cc := c_M_space) (maxL := 4) (ret := (some .int)) (by decide) rfl ?_
  intro p e s m args below meth c s₁ B hml hv
  obtain ⟨rfl, hsz, hP, hK, hD0⟩ := hv
  have hx := B.exec
  have hb := B.bytes
  have hr := B.returns
  have hts : ∀ w ∈ zAll, w.before _ s = true := fun w h => atoms_spec (ws := ws_M_space) B.pre w (List.mem_cons_of_mem _ h)
  have hown : s.vm.findClass RM = some m.cls := findClass_of_methodNamed B.named
  have hlocks := B.notSynchronized
  subst hsz
  have hD := hD0.self (sz := s.heap.size)
  generalize hAe : va_A (wM h0 h1 cA th (nI nn) F) s.heap.size = A at hD ⊢
  have hA : ∀ q : Nat, s.heap.size ≤ q → A q := fun q h => by rw [← hAe]; exact Or.inr h
  have hS : va_S A s.heap s.heap [] := va_S.rf
  replace hP : va_P (dC, dI) vwCl [(h0, .inr (1, [.int th, .int (nI nn), .ref h1])), (h1, .inl (cA, 16385, .inl F))] s.heap := hP
  replace hD : va_D A [(h0, .inr (1, [.int th, .int (nI nn), .ref h1])), (h1, .inl (cA, 16385, .inl F))] := hD
  have hl := lv_entry ([.ref h0, .int x]) (n := 4) (Nat.le_of_ble_eq_true rfl)
  rw [lg_entry_eq]
  generalize (lg_sl ([.ref h0, .int x]) ++ List.replicate (4 - (lg_sl ([.ref h0, .int x])).length) Slot.unset).toArray = ls at hl ⊢
  replace hl : lv_has ls 4 [(0, .ref h0), (1, .int x)] := hl
  refine lv_aload_n hx hb d_M_space_0 rfl (lv_at hl 0 rfl) ?_
  refine lv_iload_n hx hb d_M_space_1 rfl (lv_at hl 1 rfl) ?_
  refine lv_iconst (v := nI 1) hx hb d_M_space_2 (by decide) ?_
  refine lv_icmp_lt (tgt := 17) hx hb d_M_space_3 (by decide) (fun c1 => ?_) (fun c1 => ?_)
  · refine lv_iconst (v := nI 0) hx hb d_M_space_17 (by decide) ?_
    refine cc_Vi (wc := [(h0, .inr (1, [.int th, .int (nI nn), .ref h1])), (h1, .inl (cA, 16385, .inl F))]) (wr := []) (tys' := [(cA, .boolean)]) ⟨hx, hb, hml, hown, hts⟩ hP hD hK hS hA [0, 1] [] [0] rfl rfl rfl (by decide) (by decide) (by decide) rfl (cM_goes l dC dI h0 h1 cA _ F G nn th hF false) (cwV 1 hts g_M_24 rfl rfl rfl (by decide +kernel) ⟨Nat.le_of_ble_eq_true rfl, Nat.le_of_ble_eq_true rfl⟩) 0 1 rfl rfl rfl rfl hl.1 rfl (Nat.le_of_ble_eq_true rfl) d_M_space_18 ⟨Nat.le_of_ble_eq_true rfl, Nat.le_of_ble_eq_true rfl⟩ (fun r_9 u9 H locs hw9 hP hD hS => ?_)
    replace hP : va_P (dC, dI) vwCl [(h0, .inr (1, [.int (zv (!false)), .int (nI nn), .ref h1])), (h1, .inl (cA, 16385, .inl F))] H := hP
    replace hD : va_D A [(h0, .inr (1, [.int (zv (!false)), .int (nI nn), .ref h1])), (h1, .inl (cA, 16385, .inl F))] := hD
    subst hw9
    refine lv_if_ne (tgt := 26) hx hb d_M_space_21 (by decide) (fun c9 => ?_) (fun c9 => ?_)
    · exact absurd rfl c9
    · refine lv_iconst (v := nI 0) hx hb d_M_space_24 (by decide) ?_
      exact W.iret (v := nI 0) hx hb hr (fun t9 ht9 hW9 => ⟨⟨nI 0, (false, nn, F, G), rfl, ⟨hF, Or.inr ⟨rfl, fun ⟨k, e1, e2, e3⟩ => by (rw [e1] at c1; exact nI_nlt e2 (by omega) c1), rfl, rfl⟩⟩, by rw [ht9]; exact hP, va_K.moved hW9.alike hK, hD⟩, hS.F ht9⟩) hS.2.2 d_M_space_25
  · refine lv_iload_n hx hb d_M_space_6 rfl (lv_at hl 1 rfl) ?_
    refine lv_sipush (v := nI 16384) hx hb d_M_space_7 (by decide) ?_
    refine lv_icmp_gt (tgt := 17) hx hb d_M_space_10 (by decide) (fun c2 => ?_) (fun c2 => ?_)
    · refine lv_iconst (v := nI 0) hx hb d_M_space_17 (by decide) ?_
      refine cc_Vi (wc := [(h0, .inr (1, [.int th, .int (nI nn), .ref h1])), (h1, .inl (cA, 16385, .inl F))]) (wr := []) (tys' := [(cA, .boolean)]) ⟨hx, hb, hml, hown, hts⟩ hP hD hK hS hA [0, 1] [] [0] rfl rfl rfl (by decide) (by decide) (by decide) rfl (cM_goes l dC dI h0 h1 cA _ F G nn th hF false) (cwV 1 hts g_M_24 rfl rfl rfl (by decide +kernel) ⟨Nat.le_of_ble_eq_true rfl, Nat.le_of_ble_eq_true rfl⟩) 0 1 rfl rfl rfl rfl hl.1 rfl (Nat.le_of_ble_eq_true rfl) d_M_space_18 ⟨Nat.le_of_ble_eq_true rfl, Nat.le_of_ble_eq_true rfl⟩ (fun r_9 u9 H locs hw9 hP hD hS => ?_)
      replace hP : va_P (dC, dI) vwCl [(h0, .inr (1, [.int (zv (!false)), .int (nI nn), .ref h1])), (h1, .inl (cA, 16385, .inl F))] H := hP
      replace hD : va_D A [(h0, .inr (1, [.int (zv (!false)), .int (nI nn), .ref h1])), (h1, .inl (cA, 16385, .inl F))] := hD
      subst hw9
      refine lv_if_ne (tgt := 26) hx hb d_M_space_21 (by decide) (fun c9 => ?_) (fun c9 => ?_)
      · exact absurd rfl c9
      · refine lv_iconst (v := nI 0) hx hb d_M_space_24 (by decide) ?_
        exact W.iret (v := nI 0) hx hb hr (fun t9 ht9 hW9 => ⟨⟨nI 0, (false, nn, F, G), rfl, ⟨hF, Or.inr ⟨rfl, fun ⟨k, e1, e2, e3⟩ => by (rw [e1] at c2; exact nI_nlt e3 (by omega) c2), rfl, rfl⟩⟩, by rw [ht9]; exact hP, va_K.moved hW9.alike hK, hD⟩, hS.F ht9⟩) hS.2.2 d_M_space_25
    · obtain ⟨k, k1, k2, rfl⟩ := z_spof2 c1 c2
      refine lv_iconst (v := nI 1) hx hb d_M_space_13 (by decide) ?_
      refine lv_goto (tgt := 18) hx hb d_M_space_14 (by decide) ?_
      refine cc_Vi (wc := [(h0, .inr (1, [.int th, .int (nI nn), .ref h1])), (h1, .inl (cA, 16385, .inl F))]) (wr := []) (tys' := [(cA, .boolean)]) ⟨hx, hb, hml, hown, hts⟩ hP hD hK hS hA [0, 1] [] [0] rfl rfl rfl (by decide) (by decide) (by decide) rfl (cM_goes l dC dI h0 h1 cA _ F G nn th hF true) (cwV 1 hts g_M_24 rfl rfl rfl (by decide +kernel) ⟨Nat.le_of_ble_eq_true rfl, Nat.le_of_ble_eq_true rfl⟩) 0 1 rfl rfl rfl rfl hl.1 rfl (Nat.le_of_ble_eq_true rfl) d_M_space_18 ⟨Nat.le_of_ble_eq_true rfl, Nat.le_of_ble_eq_true rfl⟩ (fun r_9 u9 H locs hw9 hP hD hS => ?_)
      replace hP : va_P (dC, dI) vwCl [(h0, .inr (1, [.int (zv (!true)), .int (nI nn), .ref h1])), (h1, .inl (cA, 16385, .inl F))] H := hP
      replace hD : va_D A [(h0, .inr (1, [.int (zv (!true)), .int (nI nn), .ref h1])), (h1, .inl (cA, 16385, .inl F))] := hD
      subst hw9
      refine lv_if_ne (tgt := 26) hx hb d_M_space_21 (by decide) (fun c9 => ?_) (fun c9 => ?_)
      · refine lv_aload_n hx hb d_M_space_26 rfl (lv_at hl 0 rfl) ?_
        refine va_get (D := (dC, dI)) (ci := 1) (v := .int (nI nn)) (C := RM) (T := TM) (N := 3) hx hb hts inM hown hK hP 0 rfl rfl 1 (by decide) (hts _ wl_M_7) (fun _ h9 => h9) rfl d_M_space_27 ?_
        refine lv_istore_n (lv' := [(2, .int (nI nn)), (0, .ref h0), (1, .int (nI k))]) hx hb d_M_space_30 rfl hl (by decide) rfl (fun ls hl => ?_)
        refine lv_iconst (v := nI 0) hx hb d_M_space_31 (by decide) ?_
        refine lv_istore_n (lv' := [(3, .int (nI 0)), (2, .int (nI nn)), (0, .ref h0), (1, .int (nI k))]) hx hb d_M_space_32 rfl hl (by decide) rfl (fun ls hl => ?_)
        refine cc_from hP hD hS (fun H locs hP hD hS => ?_)
        obtain ⟨ci, e_ci⟩ : ∃ ci : Nat, ci = 0 := ⟨_, rfl⟩
        obtain ⟨f, e_f⟩ : ∃ f : Nat → Int32, f = F := ⟨_, rfl⟩
        replace hl : lv_has ls 4 [(0, .ref h0), (1, .int (nI k)), (2, .int (nI nn)), (3, .int (nI ci))] := by (subst e_ci; subst e_f; exact lv_sub hl [2, 3, 1, 0] rfl)
        replace hP : va_P (dC, dI) vwCl [(h0, .inr (1, [.int (zv (!true)), .int (nI nn), .ref h1])), (h1, .inl (cA, 16385, .inl f))] H := by (subst e_ci; subst e_f; exact hP)
        replace hD : va_D A [(h0, .inr (1, [.int (zv (!true)), .int (nI nn), .ref h1])), (h1, .inl (cA, 16385, .inl f))] := by (subst e_ci; subst e_f; exact hD)
        have j1 : ci ≤ 16385 := by (subst e_ci; subst e_f; exact Nat.zero_le _)
        have j2 : ∀ j, j < ci → f j = zv (decide (j = 0 ∨ j = k)) := by (subst e_ci; subst e_f; exact fun j h => absurd h (Nat.not_lt_zero _))
        clear e_ci e_f
        obtain ⟨f9, hf9⟩ : ∃ f9 : Nat, 16385 - ci < f9 := ⟨_, Nat.lt_succ_self _⟩
        induction f9 generalizing ls H locs ci f with
        | zero => exact absurd hf9 (Nat.not_lt_zero _)
        | succ f9 ih =>
          refine lv_iload_n hx hb d_M_space_33 rfl (lv_at hl 3 rfl) ?_
          refine lv_sipush (v := nI 16384) hx hb d_M_space_34 (by decide) ?_
          refine lv_icmp_gt (tgt := 66) hx hb d_M_space_37 (by decide) (fun c2 => ?_) (fun c2 => ?_)
          · replace c2 : 16384 < ci := (nI_ltI (a := 16384) (b := ci) (by omega) (by omega)).mp c2
            refine lv_aload_n hx hb d_M_space_66 rfl (lv_at hl 0 rfl) ?_
            refine lv_iload_n hx hb d_M_space_67 rfl (lv_at hl 1 rfl) ?_
            refine va_put (D := (dC, dI)) (ci := 1) (v := .int (nI k)) (ty := .int) (C := RM) (T := TM) (N := 3) hx hb hts inM tyM tyM_ok nmM hown hK hP hD hS 0 rfl rfl 1 (by decide) (hts _ wl_M_7) (fun _ h9 => h9) rfl (by decide +kernel) rfl rfl (Nat.le_of_ble_eq_true rfl) d_M_space_68 (fun H locs hP hD hS => ?_)
            replace hP : va_P (dC, dI) vwCl [(h0, .inr (1, [.int (zv (!true)), .int (nI k), .ref h1])), (h1, .inl (cA, 16385, .inl f))] H := hP
            replace hD : va_D A [(h0, .inr (1, [.int (zv (!true)), .int (nI k), .ref h1])), (h1, .inl (cA, 16385, .inl f))] := hD
            refine lv_iload_n hx hb d_M_space_71 rfl (lv_at hl 2 rfl) ?_
            exact W.iret (v := nI nn) hx hb hr (fun t9 ht9 hW9 => ⟨⟨nI nn, (true, k, f, fun j => decide (j = 0 ∨ j = k)), rfl, ⟨fun j hj => j2 j (by omega), Or.inl ⟨rfl, rfl, k1, k2, rfl, fun j _ => rfl⟩⟩, by rw [ht9]; exact hP, va_K.moved hW9.alike hK, hD⟩, hS.F ht9⟩) hS.2.2 d_M_space_72
          · replace c2 : ¬ (16384 < ci) := fun h9 => c2 ((nI_ltI (a := 16384) (b := ci) (by omega) (by omega)).mpr h9)
            refine lv_aload_n hx hb d_M_space_40 rfl (lv_at hl 0 rfl) ?_
            refine va_get (D := (dC, dI)) (ci := 1) (v := .ref h1) (C := RM) (T := TM) (N := 3) hx hb hts inM hown hK hP 0 rfl rfl 2 (by decide) (hts _ wl_M_13) (fun _ h9 => h9) rfl d_M_space_41 ?_
            refine lv_iload_n hx hb d_M_space_44 rfl (lv_at hl 3 rfl) ?_
            refine lv_iload_n hx hb d_M_space_45 rfl (lv_at hl 3 rfl) ?_
            refine lv_if_eq (tgt := 54) hx hb d_M_space_46 (by decide) (fun c3 => ?_) (fun c3 => ?_)
            · replace c3 : ci = 0 := (nI_eq (a := ci) (b := 0) (by omega) (by omega)).mp c3
              have j3 : ∀ j, j < ci + 1 → upd f ci (nI 1) j = zv (decide (j = 0 ∨ j = k)) := fun j hj => by
                by_cases q : j = ci
                · rw [q, pk_us, decide_eq_true (by omega)]; rfl
                · rw [pk_un q]; exact j2 j (by omega)
              refine lv_iconst (v := nI 1) hx hb d_M_space_54 (by decide) ?_
              refine lv_goto (tgt := 59) hx hb d_M_space_55 (by decide) ?_
              refine va_zast hx hb hK hP hD hS 1 0 rfl rfl (vp_in_nI (by omega) (by decide)) d_M_space_59 (fun H locs hP hD hS => ?_)
              rw [nI_clamp (by omega)] at hP hD
              rw [show vp_nar .boolean (nI 1) = nI 1 from by decide +kernel] at hP hD
              replace hP : va_P (dC, dI) vwCl [(h0, .inr (1, [.int (zv (!true)), .int (nI nn), .ref h1])), (h1, .inl (cA, 16385, .inl (upd f ci (nI 1))))] H := hP
              replace hD : va_D A [(h0, .inr (1, [.int (zv (!true)), .int (nI nn), .ref h1])), (h1, .inl (cA, 16385, .inl (upd f ci (nI 1))))] := hD
              refine lv_iinc (v := nI (ci + 1)) (lv' := [(3, .int (nI (ci + 1))), (0, .ref h0), (1, .int (nI k)), (2, .int (nI nn))]) hx hb d_M_space_60 hl (k := 3) rfl (nI_1 _) (by decide) rfl (fun ls hl => ?_)
              refine lv_goto (tgt := 33) hx hb d_M_space_63 (by decide) ?_
              apply ih (ls := ls) (H := H) (locs := locs) (ci := ci + 1) (f := upd f ci (nI 1)) <;> first | assumption | exact lv_sub hl [1, 2, 3, 0] rfl | omega
            · replace c3 : ¬ (ci = 0) := fun h9 => c3 ((nI_eq (a := ci) (b := 0) (by omega) (by omega)).mpr h9)
              refine lv_iload_n hx hb d_M_space_49 rfl (lv_at hl 3 rfl) ?_
              refine lv_iload_n hx hb d_M_space_50 rfl (lv_at hl 1 rfl) ?_
              refine lv_icmp_ne (tgt := 58) hx hb d_M_space_51 (by decide) (fun c4 => ?_) (fun c4 => ?_)
              · replace c4 : ¬ (ci = k) := fun h9 => c4 ((nI_eq (a := ci) (b := k) (by omega) (by omega)).mpr h9)
                have j3 : ∀ j, j < ci + 1 → upd f ci (nI 0) j = zv (decide (j = 0 ∨ j = k)) := fun j hj => by
                  by_cases q : j = ci
                  · rw [q, pk_us, decide_eq_false (by omega)]; rfl
                  · rw [pk_un q]; exact j2 j (by omega)
                refine lv_iconst (v := nI 0) hx hb d_M_space_58 (by decide) ?_
                refine va_zast hx hb hK hP hD hS 1 0 rfl rfl (vp_in_nI (by omega) (by decide)) d_M_space_59 (fun H locs hP hD hS => ?_)
                rw [nI_clamp (by omega)] at hP hD
                rw [show vp_nar .boolean (nI 0) = nI 0 from by decide +kernel] at hP hD
                replace hP : va_P (dC, dI) vwCl [(h0, .inr (1, [.int (zv (!true)), .int (nI nn), .ref h1])), (h1, .inl (cA, 16385, .inl (upd f ci (nI 0))))] H := hP
                replace hD : va_D A [(h0, .inr (1, [.int (zv (!true)), .int (nI nn), .ref h1])), (h1, .inl (cA, 16385, .inl (upd f ci (nI 0))))] := hD
                refine lv_iinc (v := nI (ci + 1)) (lv' := [(3, .int (nI (ci + 1))), (0, .ref h0), (1, .int (nI k)), (2, .int (nI nn))]) hx hb d_M_space_60 hl (k := 3) rfl (nI_1 _) (by decide) rfl (fun ls hl => ?_)
                refine lv_goto (tgt := 33) hx hb d_M_space_63 (by decide) ?_
                apply ih (ls := ls) (H := H) (locs := locs) (ci := ci + 1) (f := upd f ci (nI 0)) <;> first | assumption | exact lv_sub hl [1, 2, 3, 0] rfl | omega
              · replace c4 : ci = k := (nI_eq (a := ci) (b := k) (by omega) (by omega)).mp c4
                have j3 : ∀ j, j < ci + 1 → upd f ci (nI 1) j = zv (decide (j = 0 ∨ j = k)) := fun j hj => by
                  by_cases q : j = ci
                  · rw [q, pk_us, decide_eq_true (by omega)]; rfl
                  · rw [pk_un q]; exact j2 j (by omega)
                refine lv_iconst (v := nI 1) hx hb d_M_space_54 (by decide) ?_
                refine lv_goto (tgt := 59) hx hb d_M_space_55 (by decide) ?_
                refine va_zast hx hb hK hP hD hS 1 0 rfl rfl (vp_in_nI (by omega) (by decide)) d_M_space_59 (fun H locs hP hD hS => ?_)
                rw [nI_clamp (by omega)] at hP hD
                rw [show vp_nar .boolean (nI 1) = nI 1 from by decide +kernel] at hP hD
                replace hP : va_P (dC, dI) vwCl [(h0, .inr (1, [.int (zv (!true)), .int (nI nn), .ref h1])), (h1, .inl (cA, 16385, .inl (upd f ci (nI 1))))] H := hP
                replace hD : va_D A [(h0, .inr (1, [.int (zv (!true)), .int (nI nn), .ref h1])), (h1, .inl (cA, 16385, .inl (upd f ci (nI 1))))] := hD
                refine lv_iinc (v := nI (ci + 1)) (lv' := [(3, .int (nI (ci + 1))), (0, .ref h0), (1, .int (nI k)), (2, .int (nI nn))]) hx hb d_M_space_60 hl (k := 3) rfl (nI_1 _) (by decide) rfl (fun ls hl => ?_)
                refine lv_goto (tgt := 33) hx hb d_M_space_63 (by decide) ?_
                apply ih (ls := ls) (H := H) (locs := locs) (ci := ci + 1) (f := upd f ci (nI 1)) <;> first | assumption | exact lv_sub hl [1, 2, 3, 0] rfl | omega
      · exact absurd c9 (by decide)
set_option maxHeartbeats 4000000 in
set_option maxRecDepth 100000 in
/-- M_make -/
theorem cM_make (l : Launch) (dC : Nat → ClassId) (dI : Nat → Nat → Nat) (h0 h1 : Nat) (cA : ClassId) (sz : Nat) (F : Nat → Int32) (G : Nat → Bool) (nn : Nat) (th : Int32) (hF : MF F G) (x z : Int32) (g1 : nn ≤ 16384) (g2 : G 0 = true) (g3 : G nn = true) : Met l y_M_make ws_M_make ({ frames := 1, cells := 0, slots := 0, locals := 22 }) (va_Pc [.ref h0, .int x, .int z] (cc_P (dC, dI) vwCl (wM h0 h1 cA th (nI nn) F) (tM cA) sz)) (va_Qi (S := Bool × (Nat → Int32) × (Nat → Bool)) (fun (r : Int32) (u : Bool × (Nat → Int32) × (Nat → Bool)) => MF u.2.1 u.2.2 ∧ ((u.1 = true ∧ ∃ a b, x = nI a ∧ z = nI b ∧ a < b ∧ b ≤ nn ∧ u.2.2 = (fun j => if a ≤ j ∧ j ≤ b then decide (j = a ∨ j = b) else G j) ∧ r = nI (zc u.2.2 nn)) ∨ (u.1 = false ∧ (¬ ∃ a b, x = nI a ∧ z = nI b ∧ a < b ∧ b ≤ nn) ∧ u.2.2 = G))) (fun u t => cc_B (dC, dI) vwCl (tM cA) (va_A (wM h0 h1 cA th (nI nn) F) sz) ((fun u : Bool × (Nat → Int32) × (Nat → Bool) => (wM h0 h1 cA (zv (!u.1)) (nI nn) u.2.1)) u) t) (va_A (wM h0 h1 cA th (nI nn) F) sz)) 0 0 (va_A (wM h0 h1 cA th (nI nn) F) sz) := by
  refine Met.ofW (cc := c_M_make) (maxL := 4) (ret := (some .int)) (by decide) rfl ?_
  intro p e s m args below meth c s₁ B hml hv
  obtain ⟨rfl, hsz, hP, hK, hD0⟩ := hv
  have hx := B.exec
  have hb := B.bytes
  have hr := B.returns
  have hts : ∀ w ∈ zAll, w.before _ s = true := fun w h => atoms_spec (ws := ws_M_make) B.pre w (List.mem_cons_of_mem _ h)
  have hown : s.vm.findClass RM = some m.cls := findClass_of_methodNamed B.named
  have hlocks := B.notSynchronized
  subst hsz
  have hD := hD0.self (sz := s.heap.size)
  generalize hAe : va_A (wM h0 h1 cA th (nI nn) F) s.heap.size = A at hD ⊢
  have hA : ∀ q : Nat, s.heap.size ≤ q → A q := fun q h => by rw [← hAe]; exact Or.inr h
  have hS : va_S A s.heap s.heap [] := va_S.rf
  replace hP : va_P (dC, dI) vwCl [(h0, .inr (1, [.int th, .int (nI nn), .ref h1])), (h1, .inl (cA, 16385, .inl F))] s.heap := hP
  replace hD : va_D A [(h0, .inr (1, [.int th, .int (nI nn), .ref h1])), (h1, .inl (cA, 16385, .inl F))] := hD
  have hl := lv_entry ([.ref h0, .int x, .int z]) (n := 4) (Nat.le_of_ble_eq_true rfl)
  rw [lg_entry_eq]
  generalize (lg_sl ([.ref h0, .int x, .int z]) ++ List.replicate (4 - (lg_sl ([.ref h0, .int x, .int z])).length) Slot.unset).toArray = ls at hl ⊢
  replace hl : lv_has ls 4 [(0, .ref h0), (1, .int x), (2, .int z)] := hl
  refine lv_aload_n hx hb d_M_make_0 rfl (lv_at hl 0 rfl) ?_
  refine lv_aload_n hx hb d_M_make_1 rfl (lv_at hl 0 rfl) ?_
  refine lv_iload_n hx hb d_M_make_2 rfl (lv_at hl 1 rfl) ?_
  refine cc_Vi (wc := [(h0, .inr (1, [.int th, .int (nI nn), .ref h1])), (h1, .inl (cA, 16385, .inl F))]) (wr := []) (tys' := [(cA, .boolean)]) ⟨hx, hb, hml, hown, hts⟩ hP hD hK hS hA [0, 1] [] [0] rfl rfl rfl (by decide) (by decide) (by decide) rfl (cM_isCell l dC dI h0 h1 cA _ F G nn th hF x g1) (cwV 1 hts g_M_28 rfl rfl rfl (by decide +kernel) ⟨Nat.le_of_ble_eq_true rfl, Nat.le_of_ble_eq_true rfl⟩) 0 1 rfl rfl rfl rfl hl.1 rfl (Nat.le_of_ble_eq_true rfl) d_M_make_3 ⟨Nat.le_of_ble_eq_true rfl, Nat.le_of_ble_eq_true rfl⟩ (fun r_9 bb H locs hw hP hD hS => ?_)
  replace hP : va_P (dC, dI) vwCl [(h0, .inr (1, [.int th, .int (nI nn), .ref h1])), (h1, .inl (cA, 16385, .inl F))] H := hP
  replace hD : va_D A [(h0, .inr (1, [.int th, .int (nI nn), .ref h1])), (h1, .inl (cA, 16385, .inl F))] := hD
  obtain ⟨rfl, hb1, hb2⟩ := hw
  refine lv_if_eq (tgt := 26) hx hb d_M_make_6 (by decide) (fun c0 => ?_) (fun c0 => ?_)
  · have eb : bb = false := zv_f c0
    subst eb
    refine lv_iconst (v := nI 0) hx hb d_M_make_26 (by decide) ?_
    refine cc_Vi (wc := [(h0, .inr (1, [.int th, .int (nI nn), .ref h1])), (h1, .inl (cA, 16385, .inl F))]) (wr := []) (tys' := [(cA, .boolean)]) ⟨hx, hb, hml, hown, hts⟩ hP hD hK hS hA [0, 1] [] [0] rfl rfl rfl (by decide) (by decide) (by decide) rfl (cM_goes l dC dI h0 h1 cA _ F G nn th hF false) (cwV 1 hts g_M_24 rfl rfl rfl (by decide +kernel) ⟨Nat.le_of_ble_eq_true rfl, Nat.le_of_ble_eq_true rfl⟩) 0 1 rfl rfl rfl rfl hl.1 rfl (Nat.le_of_ble_eq_true rfl) d_M_make_27 ⟨Nat.le_of_ble_eq_true rfl, Nat.le_of_ble_eq_true rfl⟩ (fun r_9 u9 H locs hw9 hP hD hS => ?_)
    replace hP : va_P (dC, dI) vwCl [(h0, .inr (1, [.int (zv (!false)), .int (nI nn), .ref h1])), (h1, .inl (cA, 16385, .inl F))] H := hP
    replace hD : va_D A [(h0, .inr (1, [.int (zv (!false)), .int (nI nn), .ref h1])), (h1, .inl (cA, 16385, .inl F))] := hD
    subst hw9
    refine lv_if_ne (tgt := 35) hx hb d_M_make_30 (by decide) (fun c9 => ?_) (fun c9 => ?_)
    · exact absurd rfl c9
    · refine lv_iconst (v := nI 0) hx hb d_M_make_33 (by decide) ?_
      exact W.iret (v := nI 0) hx hb hr (fun t9 ht9 hW9 => ⟨⟨nI 0, (false, F, G), rfl, ⟨hF, Or.inr ⟨rfl, fun ⟨a, b, e1, e2, e3, e4⟩ => hb2 rfl ⟨a, by omega, e1⟩, rfl⟩⟩, by rw [ht9]; exact hP, va_K.moved hW9.alike hK, hD⟩, hS.F ht9⟩) hS.2.2 d_M_make_34
  · have eb : bb = true := zv_t c0
    subst eb
    obtain ⟨k, k1, rfl⟩ := hb1 rfl
    refine lv_iload_n hx hb d_M_make_9 rfl (lv_at hl 2 rfl) ?_
    refine lv_iload_n hx hb d_M_make_10 rfl (lv_at hl 1 rfl) ?_
    refine lv_icmp_le (tgt := 26) hx hb d_M_make_11 (by decide) (fun c1 => ?_) (fun c1 => ?_)
    · refine lv_iconst (v := nI 0) hx hb d_M_make_26 (by decide) ?_
      refine cc_Vi (wc := [(h0, .inr (1, [.int th, .int (nI nn), .ref h1])), (h1, .inl (cA, 16385, .inl F))]) (wr := []) (tys' := [(cA, .boolean)]) ⟨hx, hb, hml, hown, hts⟩ hP hD hK hS hA [0, 1] [] [0] rfl rfl rfl (by decide) (by decide) (by decide) rfl (cM_goes l dC dI h0 h1 cA _ F G nn th hF false) (cwV 1 hts g_M_24 rfl rfl rfl (by decide +kernel) ⟨Nat.le_of_ble_eq_true rfl, Nat.le_of_ble_eq_true rfl⟩) 0 1 rfl rfl rfl rfl hl.1 rfl (Nat.le_of_ble_eq_true rfl) d_M_make_27 ⟨Nat.le_of_ble_eq_true rfl, Nat.le_of_ble_eq_true rfl⟩ (fun r_9 u9 H locs hw9 hP hD hS => ?_)
      replace hP : va_P (dC, dI) vwCl [(h0, .inr (1, [.int (zv (!false)), .int (nI nn), .ref h1])), (h1, .inl (cA, 16385, .inl F))] H := hP
      replace hD : va_D A [(h0, .inr (1, [.int (zv (!false)), .int (nI nn), .ref h1])), (h1, .inl (cA, 16385, .inl F))] := hD
      subst hw9
      refine lv_if_ne (tgt := 35) hx hb d_M_make_30 (by decide) (fun c9 => ?_) (fun c9 => ?_)
      · exact absurd rfl c9
      · refine lv_iconst (v := nI 0) hx hb d_M_make_33 (by decide) ?_
        exact W.iret (v := nI 0) hx hb hr (fun t9 ht9 hW9 => ⟨⟨nI 0, (false, F, G), rfl, ⟨hF, Or.inr ⟨rfl, fun ⟨a, b, e1, e2, e3, e4⟩ => by (have e5 : k = a := (nI_eq (by omega) (by omega)).mp e1; rw [e2] at c1; exact nI_ge (show k < b by omega) (by omega) c1), rfl⟩⟩, by rw [ht9]; exact hP, va_K.moved hW9.alike hK, hD⟩, hS.F ht9⟩) hS.2.2 d_M_make_34
    · refine lv_iload_n hx hb d_M_make_14 rfl (lv_at hl 2 rfl) ?_
      refine lv_aload_n hx hb d_M_make_15 rfl (lv_at hl 0 rfl) ?_
      refine va_get (D := (dC, dI)) (ci := 1) (v := .int (nI nn)) (C := RM) (T := TM) (N := 3) hx hb hts inM hown hK hP 0 rfl rfl 1 (by decide) (hts _ wl_M_7) (fun _ h9 => h9) rfl d_M_make_16 ?_
      refine lv_icmp_gt (tgt := 26) hx hb d_M_make_19 (by decide) (fun c2 => ?_) (fun c2 => ?_)
      · refine lv_iconst (v := nI 0) hx hb d_M_make_26 (by decide) ?_
        refine cc_Vi (wc := [(h0, .inr (1, [.int th, .int (nI nn), .ref h1])), (h1, .inl (cA, 16385, .inl F))]) (wr := []) (tys' := [(cA, .boolean)]) ⟨hx, hb, hml, hown, hts⟩ hP hD hK hS hA [0, 1] [] [0] rfl rfl rfl (by decide) (by decide) (by decide) rfl (cM_goes l dC dI h0 h1 cA _ F G nn th hF false) (cwV 1 hts g_M_24 rfl rfl rfl (by decide +kernel) ⟨Nat.le_of_ble_eq_true rfl, Nat.le_of_ble_eq_true rfl⟩) 0 1 rfl rfl rfl rfl hl.1 rfl (Nat.le_of_ble_eq_true rfl) d_M_make_27 ⟨Nat.le_of_ble_eq_true rfl, Nat.le_of_ble_eq_true rfl⟩ (fun r_9 u9 H locs hw9 hP hD hS => ?_)
        replace hP : va_P (dC, dI) vwCl [(h0, .inr (1, [.int (zv (!false)), .int (nI nn), .ref h1])), (h1, .inl (cA, 16385, .inl F))] H := hP
        replace hD : va_D A [(h0, .inr (1, [.int (zv (!false)), .int (nI nn), .ref h1])), (h1, .inl (cA, 16385, .inl F))] := hD
        subst hw9
        refine lv_if_ne (tgt := 35) hx hb d_M_make_30 (by decide) (fun c9 => ?_) (fun c9 => ?_)
        · exact absurd rfl c9
        · refine lv_iconst (v := nI 0) hx hb d_M_make_33 (by decide) ?_
          exact W.iret (v := nI 0) hx hb hr (fun t9 ht9 hW9 => ⟨⟨nI 0, (false, F, G), rfl, ⟨hF, Or.inr ⟨rfl, fun ⟨a, b, e1, e2, e3, e4⟩ => by (rw [e2] at c2; exact nI_nlt e4 (by omega) c2), rfl⟩⟩, by rw [ht9]; exact hP, va_K.moved hW9.alike hK, hD⟩, hS.F ht9⟩) hS.2.2 d_M_make_34
      · obtain ⟨b, b1, b2, rfl⟩ := z_mkof2 c1 c2 (by omega)
        refine lv_iconst (v := nI 1) hx hb d_M_make_22 (by decide) ?_
        refine lv_goto (tgt := 27) hx hb d_M_make_23 (by decide) ?_
        refine cc_Vi (wc := [(h0, .inr (1, [.int th, .int (nI nn), .ref h1])), (h1, .inl (cA, 16385, .inl F))]) (wr := []) (tys' := [(cA, .boolean)]) ⟨hx, hb, hml, hown, hts⟩ hP hD hK hS hA [0, 1] [] [0] rfl rfl rfl (by decide) (by decide) (by decide) rfl (cM_goes l dC dI h0 h1 cA _ F G nn th hF true) (cwV 1 hts g_M_24 rfl rfl rfl (by decide +kernel) ⟨Nat.le_of_ble_eq_true rfl, Nat.le_of_ble_eq_true rfl⟩) 0 1 rfl rfl rfl rfl hl.1 rfl (Nat.le_of_ble_eq_true rfl) d_M_make_27 ⟨Nat.le_of_ble_eq_true rfl, Nat.le_of_ble_eq_true rfl⟩ (fun r_9 u9 H locs hw9 hP hD hS => ?_)
        replace hP : va_P (dC, dI) vwCl [(h0, .inr (1, [.int (zv (!true)), .int (nI nn), .ref h1])), (h1, .inl (cA, 16385, .inl F))] H := hP
        replace hD : va_D A [(h0, .inr (1, [.int (zv (!true)), .int (nI nn), .ref h1])), (h1, .inl (cA, 16385, .inl F))] := hD
        subst hw9
        refine lv_if_ne (tgt := 35) hx hb d_M_make_30 (by decide) (fun c9 => ?_) (fun c9 => ?_)
        · refine lv_iload_n hx hb d_M_make_35 rfl (lv_at hl 1 rfl) ?_
          refine lv_istore_n (lv' := [(3, .int (nI k)), (0, .ref h0), (1, .int (nI k)), (2, .int (nI b))]) hx hb d_M_make_36 rfl hl (by decide) rfl (fun ls hl => ?_)
          refine cc_from hP hD hS (fun H locs hP hD hS => ?_)
          obtain ⟨ci, e_ci⟩ : ∃ ci : Nat, ci = k := ⟨_, rfl⟩
          obtain ⟨f, e_f⟩ : ∃ f : Nat → Int32, f = F := ⟨_, rfl⟩
          replace hl : lv_has ls 4 [(0, .ref h0), (1, .int (nI k)), (2, .int (nI b)), (3, .int (nI ci))] := by (subst e_ci; subst e_f; exact lv_sub hl [1, 2, 3, 0] rfl)
          replace hP : va_P (dC, dI) vwCl [(h0, .inr (1, [.int (zv (!true)), .int (nI nn), .ref h1])), (h1, .inl (cA, 16385, .inl f))] H := by (subst e_ci; subst e_f; exact hP)
          replace hD : va_D A [(h0, .inr (1, [.int (zv (!true)), .int (nI nn), .ref h1])), (h1, .inl (cA, 16385, .inl f))] := by (subst e_ci; subst e_f; exact hD)
          have j0 : k ≤ ci := by (subst e_ci; subst e_f; exact Nat.le_refl _)
          have j1 : ci ≤ b + 1 := by (subst e_ci; subst e_f; omega)
          have j2 : ∀ j, j < 16385 → f j = zv (if k ≤ j ∧ j < ci then decide (j = k ∨ j = b) else G j) := by (subst e_ci; subst e_f; exact fun j hj => by rw [if_neg (by omega)]; exact hF j hj)
          clear e_ci e_f
          obtain ⟨f9, hf9⟩ : ∃ f9 : Nat, b + 1 - ci < f9 := ⟨_, Nat.lt_succ_self _⟩
          induction f9 generalizing ls H locs ci f with
          | zero => exact absurd hf9 (Nat.not_lt_zero _)
          | succ f9 ih =>
            refine lv_iload_n hx hb d_M_make_37 rfl (lv_at hl 3 rfl) ?_
            refine lv_iload_n hx hb d_M_make_38 rfl (lv_at hl 2 rfl) ?_
            refine lv_icmp_gt (tgt := 69) hx hb d_M_make_39 (by decide) (fun c3 => ?_) (fun c3 => ?_)
            · replace c3 : b < ci := (nI_ltI (a := b) (b := ci) (by omega) (by omega)).mp c3
              have hF2 : MF f (fun j => if k ≤ j ∧ j ≤ b then decide (j = k ∨ j = b) else G j) := fun j hj => by
                rw [j2 j hj]
                show zv (if k ≤ j ∧ j < ci then decide (j = k ∨ j = b) else G j) = zv (if k ≤ j ∧ j ≤ b then decide (j = k ∨ j = b) else G j)
                by_cases q : k ≤ j ∧ j ≤ b
                · rw [if_pos q, if_pos (by omega)]
                · rw [if_neg q, if_neg (by omega)]
              refine lv_aload_n hx hb d_M_make_69 rfl (lv_at hl 0 rfl) ?_
              refine cc_Vi (wc := [(h0, .inr (1, [.int (zv (!true)), .int (nI nn), .ref h1])), (h1, .inl (cA, 16385, .inl f))]) (wr := []) (tys' := [(cA, .boolean)]) ⟨hx, hb, hml, hown, hts⟩ hP hD hK hS hA [0, 1] [] [0] rfl rfl rfl (by decide) (by decide) (by decide) rfl (cM_pieces l dC dI h0 h1 cA _ f _ nn (zv (!true)) hF2 g1) (cwV 0 hts g_M_39 rfl rfl rfl (by decide +kernel) ⟨Nat.le_of_ble_eq_true rfl, Nat.le_of_ble_eq_true rfl⟩) 0 1 rfl rfl rfl rfl hl.1 rfl (Nat.le_of_ble_eq_true rfl) d_M_make_70 ⟨Nat.le_of_ble_eq_true rfl, Nat.le_of_ble_eq_true rfl⟩ (fun r_9 u H locs hw hP hD hS => ?_)
              replace hP : va_P (dC, dI) vwCl [(h0, .inr (1, [.int (zv (!true)), .int (nI nn), .ref h1])), (h1, .inl (cA, 16385, .inl f))] H := hP
              replace hD : va_D A [(h0, .inr (1, [.int (zv (!true)), .int (nI nn), .ref h1])), (h1, .inl (cA, 16385, .inl f))] := hD
              subst hw
              exact W.iret (v := nI (zc (fun j => if k ≤ j ∧ j ≤ b then decide (j = k ∨ j = b) else G j) nn)) hx hb hr (fun t9 ht9 hW9 => ⟨⟨nI (zc (fun j => if k ≤ j ∧ j ≤ b then decide (j = k ∨ j = b) else G j) nn), (true, f, fun j => if k ≤ j ∧ j ≤ b then decide (j = k ∨ j = b) else G j), rfl, ⟨hF2, Or.inl ⟨rfl, k, b, rfl, rfl, b1, b2, rfl, rfl⟩⟩, by rw [ht9]; exact hP, va_K.moved hW9.alike hK, hD⟩, hS.F ht9⟩) hS.2.2 d_M_make_73
            · replace c3 : ¬ (b < ci) := fun h9 => c3 ((nI_ltI (a := b) (b := ci) (by omega) (by omega)).mpr h9)
              refine lv_aload_n hx hb d_M_make_42 rfl (lv_at hl 0 rfl) ?_
              refine va_get (D := (dC, dI)) (ci := 1) (v := .ref h1) (C := RM) (T := TM) (N := 3) hx hb hts inM hown hK hP 0 rfl rfl 2 (by decide) (hts _ wl_M_13) (fun _ h9 => h9) rfl d_M_make_43 ?_
              refine lv_iload_n hx hb d_M_make_46 rfl (lv_at hl 3 rfl) ?_
              refine lv_iload_n hx hb d_M_make_47 rfl (lv_at hl 3 rfl) ?_
              refine lv_iload_n hx hb d_M_make_48 rfl (lv_at hl 1 rfl) ?_
              refine lv_icmp_eq (tgt := 57) hx hb d_M_make_49 (by decide) (fun c4 => ?_) (fun c4 => ?_)
              · replace c4 : ci = k := (nI_eq (a := ci) (b := k) (by omega) (by omega)).mp c4
                have j3 : ∀ j, j < 16385 → upd f ci (nI 1) j = zv (if k ≤ j ∧ j < ci + 1 then decide (j = k ∨ j = b) else G j) := fun j hj => by
                  by_cases q : j = ci
                  · rw [q, pk_us, if_pos (by omega), decide_eq_true (by omega)]; rfl
                  · rw [pk_un q, j2 j hj]
                    by_cases z : k ≤ j ∧ j < ci
                    · rw [if_pos z, if_pos (by omega)]
                    · rw [if_neg z, if_neg (by omega)]
                refine lv_iconst (v := nI 1) hx hb d_M_make_57 (by decide) ?_
                refine lv_goto (tgt := 62) hx hb d_M_make_58 (by decide) ?_
                refine va_zast hx hb hK hP hD hS 1 0 rfl rfl (vp_in_nI (by omega) (by decide)) d_M_make_62 (fun H locs hP hD hS => ?_)
                rw [nI_clamp (by omega)] at hP hD
                rw [show vp_nar .boolean (nI 1) = nI 1 from by decide +kernel] at hP hD
                replace hP : va_P (dC, dI) vwCl [(h0, .inr (1, [.int (zv (!true)), .int (nI nn), .ref h1])), (h1, .inl (cA, 16385, .inl (upd f ci (nI 1))))] H := hP
                replace hD : va_D A [(h0, .inr (1, [.int (zv (!true)), .int (nI nn), .ref h1])), (h1, .inl (cA, 16385, .inl (upd f ci (nI 1))))] := hD
                refine lv_iinc (v := nI (ci + 1)) (lv' := [(3, .int (nI (ci + 1))), (0, .ref h0), (1, .int (nI k)), (2, .int (nI b))]) hx hb d_M_make_63 hl (k := 3) rfl (nI_1 _) (by decide) rfl (fun ls hl => ?_)
                refine lv_goto (tgt := 37) hx hb d_M_make_66 (by decide) ?_
                apply ih (ls := ls) (H := H) (locs := locs) (ci := ci + 1) (f := upd f ci (nI 1)) <;> first | assumption | exact lv_sub hl [1, 2, 3, 0] rfl | omega
              · replace c4 : ¬ (ci = k) := fun h9 => c4 ((nI_eq (a := ci) (b := k) (by omega) (by omega)).mpr h9)
                refine lv_iload_n hx hb d_M_make_52 rfl (lv_at hl 3 rfl) ?_
                refine lv_iload_n hx hb d_M_make_53 rfl (lv_at hl 2 rfl) ?_
                refine lv_icmp_ne (tgt := 61) hx hb d_M_make_54 (by decide) (fun c5 => ?_) (fun c5 => ?_)
                · replace c5 : ¬ (ci = b) := fun h9 => c5 ((nI_eq (a := ci) (b := b) (by omega) (by omega)).mpr h9)
                  have j3 : ∀ j, j < 16385 → upd f ci (nI 0) j = zv (if k ≤ j ∧ j < ci + 1 then decide (j = k ∨ j = b) else G j) := fun j hj => by
                    by_cases q : j = ci
                    · rw [q, pk_us, if_pos (by omega), decide_eq_false (by omega)]; rfl
                    · rw [pk_un q, j2 j hj]
                      by_cases z : k ≤ j ∧ j < ci
                      · rw [if_pos z, if_pos (by omega)]
                      · rw [if_neg z, if_neg (by omega)]
                  refine lv_iconst (v := nI 0) hx hb d_M_make_61 (by decide) ?_
                  refine va_zast hx hb hK hP hD hS 1 0 rfl rfl (vp_in_nI (by omega) (by decide)) d_M_make_62 (fun H locs hP hD hS => ?_)
                  rw [nI_clamp (by omega)] at hP hD
                  rw [show vp_nar .boolean (nI 0) = nI 0 from by decide +kernel] at hP hD
                  replace hP : va_P (dC, dI) vwCl [(h0, .inr (1, [.int (zv (!true)), .int (nI nn), .ref h1])), (h1, .inl (cA, 16385, .inl (upd f ci (nI 0))))] H := hP
                  replace hD : va_D A [(h0, .inr (1, [.int (zv (!true)), .int (nI nn), .ref h1])), (h1, .inl (cA, 16385, .inl (upd f ci (nI 0))))] := hD
                  refine lv_iinc (v := nI (ci + 1)) (lv' := [(3, .int (nI (ci + 1))), (0, .ref h0), (1, .int (nI k)), (2, .int (nI b))]) hx hb d_M_make_63 hl (k := 3) rfl (nI_1 _) (by decide) rfl (fun ls hl => ?_)
                  refine lv_goto (tgt := 37) hx hb d_M_make_66 (by decide) ?_
                  apply ih (ls := ls) (H := H) (locs := locs) (ci := ci + 1) (f := upd f ci (nI 0)) <;> first | assumption | exact lv_sub hl [1, 2, 3, 0] rfl | omega
                · replace c5 : ci = b := (nI_eq (a := ci) (b := b) (by omega) (by omega)).mp c5
                  have j3 : ∀ j, j < 16385 → upd f ci (nI 1) j = zv (if k ≤ j ∧ j < ci + 1 then decide (j = k ∨ j = b) else G j) := fun j hj => by
                    by_cases q : j = ci
                    · rw [q, pk_us, if_pos (by omega), decide_eq_true (by omega)]; rfl
                    · rw [pk_un q, j2 j hj]
                      by_cases z : k ≤ j ∧ j < ci
                      · rw [if_pos z, if_pos (by omega)]
                      · rw [if_neg z, if_neg (by omega)]
                  refine lv_iconst (v := nI 1) hx hb d_M_make_57 (by decide) ?_
                  refine lv_goto (tgt := 62) hx hb d_M_make_58 (by decide) ?_
                  refine va_zast hx hb hK hP hD hS 1 0 rfl rfl (vp_in_nI (by omega) (by decide)) d_M_make_62 (fun H locs hP hD hS => ?_)
                  rw [nI_clamp (by omega)] at hP hD
                  rw [show vp_nar .boolean (nI 1) = nI 1 from by decide +kernel] at hP hD
                  replace hP : va_P (dC, dI) vwCl [(h0, .inr (1, [.int (zv (!true)), .int (nI nn), .ref h1])), (h1, .inl (cA, 16385, .inl (upd f ci (nI 1))))] H := hP
                  replace hD : va_D A [(h0, .inr (1, [.int (zv (!true)), .int (nI nn), .ref h1])), (h1, .inl (cA, 16385, .inl (upd f ci (nI 1))))] := hD
                  refine lv_iinc (v := nI (ci + 1)) (lv' := [(3, .int (nI (ci + 1))), (0, .ref h0), (1, .int (nI k)), (2, .int (nI b))]) hx hb d_M_make_63 hl (k := 3) rfl (nI_1 _) (by decide) rfl (fun ls hl => ?_)
                  refine lv_goto (tgt := 37) hx hb d_M_make_66 (by decide) ?_
                  apply ih (ls := ls) (H := H) (locs := locs) (ci := ci + 1) (f := upd f ci (nI 1)) <;> first | assumption | exact lv_sub hl [1, 2, 3, 0] rfl | omega
        · exact absurd c9 (by decide)
set_option maxHeartbeats 4000000 in
set_option maxRecDepth 100000 in
/-- M_count -/
theorem cM_count (l : Launch) (dC : Nat → ClassId) (dI : Nat → Nat → Nat) (h0 h1 : Nat) (cA : ClassId) (sz : Nat) (F : Nat → Int32) (G : Nat → Bool) (nn : Nat) (th : Int32) (hF : MF F G) (x : Int32) (g0 : 1 ≤ nn) (g1 : nn ≤ 16384) (g2 : G 0 = true) (g3 : G nn = true) : Met l y_M_count ws_M_count ({ frames := 1, cells := 0, slots := 0, locals := 22 }) (va_Pc [.ref h0, .int x] (cc_P (dC, dI) vwCl (wM h0 h1 cA th (nI nn) F) (tM cA) sz)) (va_Qi (S := Bool × (Nat → Int32) × (Nat → Bool)) (fun (r : Int32) (u : Bool × (Nat → Int32) × (Nat → Bool)) => MF u.2.1 u.2.2 ∧ ((u.1 = true ∧ ((x = nI 0 ∧ r = nI (nn)) ∨ (x = nI 1 ∧ r = nI ((nn + 31) / 32)) ∨ (x = nI 2 ∧ r = nI (zc G nn)) ∨ (x = nI 3 ∧ r = nI (zF max G nn (zc G nn) 0 0)) ∨ (x = nI 4 ∧ r = nI (zF min G nn (zc G nn) 0 16384))) ∧ u.2.2 = G) ∨ (u.1 = false ∧ (¬ (x = nI 0 ∨ x = nI 1 ∨ x = nI 2 ∨ x = nI 3 ∨ x = nI 4)) ∧ u.2.2 = G))) (fun u t => cc_B (dC, dI) vwCl (tM cA) (va_A (wM h0 h1 cA th (nI nn) F) sz) ((fun u : Bool × (Nat → Int32) × (Nat → Bool) => (wM h0 h1 cA (zv (!u.1)) (nI nn) u.2.1)) u) t) (va_A (wM h0 h1 cA th (nI nn) F) sz)) 0 0 (va_A (wM h0 h1 cA th (nI nn) F) sz) := by
  refine Met.ofW (cc := c_M_count) (maxL := 6) (ret := (some .int)) (by decide) rfl ?_
  intro p e s m args below meth c s₁ B hml hv
  obtain ⟨rfl, hsz, hP, hK, hD0⟩ := hv
  have hx := B.exec
  have hb := B.bytes
  have hr := B.returns
  have hts : ∀ w ∈ zAll, w.before _ s = true := fun w h => atoms_spec (ws := ws_M_count) B.pre w (List.mem_cons_of_mem _ h)
  have hown : s.vm.findClass RM = some m.cls := findClass_of_methodNamed B.named
  have hlocks := B.notSynchronized
  subst hsz
  have hD := hD0.self (sz := s.heap.size)
  generalize hAe : va_A (wM h0 h1 cA th (nI nn) F) s.heap.size = A at hD ⊢
  have hA : ∀ q : Nat, s.heap.size ≤ q → A q := fun q h => by rw [← hAe]; exact Or.inr h
  have hS : va_S A s.heap s.heap [] := va_S.rf
  replace hP : va_P (dC, dI) vwCl [(h0, .inr (1, [.int th, .int (nI nn), .ref h1])), (h1, .inl (cA, 16385, .inl F))] s.heap := hP
  replace hD : va_D A [(h0, .inr (1, [.int th, .int (nI nn), .ref h1])), (h1, .inl (cA, 16385, .inl F))] := hD
  have hl := lv_entry ([.ref h0, .int x]) (n := 6) (Nat.le_of_ble_eq_true rfl)
  rw [lg_entry_eq]
  generalize (lg_sl ([.ref h0, .int x]) ++ List.replicate (6 - (lg_sl ([.ref h0, .int x])).length) Slot.unset).toArray = ls at hl ⊢
  replace hl : lv_has ls 6 [(0, .ref h0), (1, .int x)] := hl
  refine lv_aload_n hx hb d_M_count_0 rfl (lv_at hl 0 rfl) ?_
  refine lv_iload_n hx hb d_M_count_1 rfl (lv_at hl 1 rfl) ?_
  refine lv_if_lt (tgt := 14) hx hb d_M_count_2 (by decide) (fun c1 => ?_) (fun c1 => ?_)
  · refine lv_iconst (v := nI 0) hx hb d_M_count_14 (by decide) ?_
    refine cc_Vi (wc := [(h0, .inr (1, [.int th, .int (nI nn), .ref h1])), (h1, .inl (cA, 16385, .inl F))]) (wr := []) (tys' := [(cA, .boolean)]) ⟨hx, hb, hml, hown, hts⟩ hP hD hK hS hA [0, 1] [] [0] rfl rfl rfl (by decide) (by decide) (by decide) rfl (cM_goes l dC dI h0 h1 cA _ F G nn th hF false) (cwV 1 hts g_M_24 rfl rfl rfl (by decide +kernel) ⟨Nat.le_of_ble_eq_true rfl, Nat.le_of_ble_eq_true rfl⟩) 0 1 rfl rfl rfl rfl hl.1 rfl (Nat.le_of_ble_eq_true rfl) d_M_count_15 ⟨Nat.le_of_ble_eq_true rfl, Nat.le_of_ble_eq_true rfl⟩ (fun r_9 u9 H locs hw9 hP hD hS => ?_)
    replace hP : va_P (dC, dI) vwCl [(h0, .inr (1, [.int (zv (!false)), .int (nI nn), .ref h1])), (h1, .inl (cA, 16385, .inl F))] H := hP
    replace hD : va_D A [(h0, .inr (1, [.int (zv (!false)), .int (nI nn), .ref h1])), (h1, .inl (cA, 16385, .inl F))] := hD
    subst hw9
    refine lv_if_ne (tgt := 23) hx hb d_M_count_18 (by decide) (fun c9 => ?_) (fun c9 => ?_)
    · exact absurd rfl c9
    · refine lv_iconst (v := nI 0) hx hb d_M_count_21 (by decide) ?_
      exact W.iret (v := nI 0) hx hb hr (fun t9 ht9 hW9 => ⟨⟨nI 0, (false, F, G), rfl, ⟨hF, Or.inr ⟨rfl, z_sw5n (Or.inl (z_lt0 c1)), rfl⟩⟩, by rw [ht9]; exact hP, va_K.moved hW9.alike hK, hD⟩, hS.F ht9⟩) hS.2.2 d_M_count_22
  · refine lv_iload_n hx hb d_M_count_5 rfl (lv_at hl 1 rfl) ?_
    refine lv_iconst (v := nI 4) hx hb d_M_count_6 (by decide) ?_
    refine lv_icmp_gt (tgt := 14) hx hb d_M_count_7 (by decide) (fun c2 => ?_) (fun c2 => ?_)
    · refine lv_iconst (v := nI 0) hx hb d_M_count_14 (by decide) ?_
      refine cc_Vi (wc := [(h0, .inr (1, [.int th, .int (nI nn), .ref h1])), (h1, .inl (cA, 16385, .inl F))]) (wr := []) (tys' := [(cA, .boolean)]) ⟨hx, hb, hml, hown, hts⟩ hP hD hK hS hA [0, 1] [] [0] rfl rfl rfl (by decide) (by decide) (by decide) rfl (cM_goes l dC dI h0 h1 cA _ F G nn th hF false) (cwV 1 hts g_M_24 rfl rfl rfl (by decide +kernel) ⟨Nat.le_of_ble_eq_true rfl, Nat.le_of_ble_eq_true rfl⟩) 0 1 rfl rfl rfl rfl hl.1 rfl (Nat.le_of_ble_eq_true rfl) d_M_count_15 ⟨Nat.le_of_ble_eq_true rfl, Nat.le_of_ble_eq_true rfl⟩ (fun r_9 u9 H locs hw9 hP hD hS => ?_)
      replace hP : va_P (dC, dI) vwCl [(h0, .inr (1, [.int (zv (!false)), .int (nI nn), .ref h1])), (h1, .inl (cA, 16385, .inl F))] H := hP
      replace hD : va_D A [(h0, .inr (1, [.int (zv (!false)), .int (nI nn), .ref h1])), (h1, .inl (cA, 16385, .inl F))] := hD
      subst hw9
      refine lv_if_ne (tgt := 23) hx hb d_M_count_18 (by decide) (fun c9 => ?_) (fun c9 => ?_)
      · exact absurd rfl c9
      · refine lv_iconst (v := nI 0) hx hb d_M_count_21 (by decide) ?_
        exact W.iret (v := nI 0) hx hb hr (fun t9 ht9 hW9 => ⟨⟨nI 0, (false, F, G), rfl, ⟨hF, Or.inr ⟨rfl, z_sw5n (Or.inr (z_gt4 c2)), rfl⟩⟩, by rw [ht9]; exact hP, va_K.moved hW9.alike hK, hD⟩, hS.F ht9⟩) hS.2.2 d_M_count_22
    · refine lv_iconst (v := nI 1) hx hb d_M_count_10 (by decide) ?_
      refine lv_goto (tgt := 15) hx hb d_M_count_11 (by decide) ?_
      refine cc_Vi (wc := [(h0, .inr (1, [.int th, .int (nI nn), .ref h1])), (h1, .inl (cA, 16385, .inl F))]) (wr := []) (tys' := [(cA, .boolean)]) ⟨hx, hb, hml, hown, hts⟩ hP hD hK hS hA [0, 1] [] [0] rfl rfl rfl (by decide) (by decide) (by decide) rfl (cM_goes l dC dI h0 h1 cA _ F G nn th hF true) (cwV 1 hts g_M_24 rfl rfl rfl (by decide +kernel) ⟨Nat.le_of_ble_eq_true rfl, Nat.le_of_ble_eq_true rfl⟩) 0 1 rfl rfl rfl rfl hl.1 rfl (Nat.le_of_ble_eq_true rfl) d_M_count_15 ⟨Nat.le_of_ble_eq_true rfl, Nat.le_of_ble_eq_true rfl⟩ (fun r_9 u9 H locs hw9 hP hD hS => ?_)
      replace hP : va_P (dC, dI) vwCl [(h0, .inr (1, [.int (zv (!true)), .int (nI nn), .ref h1])), (h1, .inl (cA, 16385, .inl F))] H := hP
      replace hD : va_D A [(h0, .inr (1, [.int (zv (!true)), .int (nI nn), .ref h1])), (h1, .inl (cA, 16385, .inl F))] := hD
      subst hw9
      refine lv_if_ne (tgt := 23) hx hb d_M_count_18 (by decide) (fun c9 => ?_) (fun c9 => ?_)
      · refine lv_iconst (v := nI 0) hx hb d_M_count_23 (by decide) ?_
        refine lv_istore_n (lv' := [(2, .int (nI 0)), (0, .ref h0), (1, .int x)]) hx hb d_M_count_24 rfl hl (by decide) rfl (fun ls hl => ?_)
        refine lv_sipush (v := nI 16384) hx hb d_M_count_25 (by decide) ?_
        refine lv_istore_n (lv' := [(3, .int (nI 16384)), (2, .int (nI 0)), (0, .ref h0), (1, .int x)]) hx hb d_M_count_28 rfl hl (by decide) rfl (fun ls hl => ?_)
        refine lv_iconst (v := nI 0) hx hb d_M_count_29 (by decide) ?_
        refine lv_istore (lv' := [(4, .int (nI 0)), (3, .int (nI 16384)), (2, .int (nI 0)), (0, .ref h0), (1, .int x)]) hx hb d_M_count_30 hl (by decide) rfl (fun ls hl => ?_)
        refine cc_from hP hD hS (fun H locs hP hD hS => ?_)
        obtain ⟨mo, e_mo⟩ : ∃ mo : Nat, mo = 0 := ⟨_, rfl⟩
        obtain ⟨le, e_le⟩ : ∃ le : Nat, le = 16384 := ⟨_, rfl⟩
        obtain ⟨ci, e_ci⟩ : ∃ ci : Nat, ci = 0 := ⟨_, rfl⟩
        obtain ⟨i, e_i⟩ : ∃ i : Nat, i = 0 := ⟨_, rfl⟩
        replace hl : lv_has ls 6 [(0, .ref h0), (1, .int x), (2, .int (nI mo)), (3, .int (nI le)), (4, .int (nI ci))] := by (subst e_mo; subst e_le; subst e_ci; subst e_i; exact lv_sub hl [3, 4, 2, 1, 0] rfl)
        have j1 : ci ≤ nn := by (subst e_mo; subst e_le; subst e_ci; subst e_i; exact Nat.zero_le _)
        have j2 : ci = nn ∨ G ci = true := by (subst e_mo; subst e_le; subst e_ci; subst e_i; exact Or.inr g2)
        have j3 : zc G ci = i := by (subst e_mo; subst e_le; subst e_ci; subst e_i; rfl)
        have j4 : zF max G nn (zc G nn - i) ci mo = zF max G nn (zc G nn) 0 0 := by (subst e_mo; subst e_le; subst e_ci; subst e_i; rfl)
        have j5 : zF min G nn (zc G nn - i) ci le = zF min G nn (zc G nn) 0 16384 := by (subst e_mo; subst e_le; subst e_ci; subst e_i; rfl)
        have j6 : mo ≤ 16384 := by (subst e_mo; subst e_le; subst e_ci; subst e_i; exact Nat.zero_le _)
        have j7 : le ≤ 16384 := by (subst e_mo; subst e_le; subst e_ci; subst e_i; exact Nat.le_refl _)
        clear e_mo e_le e_ci e_i
        obtain ⟨f9, hf9⟩ : ∃ f9 : Nat, nn - ci < f9 := ⟨_, Nat.lt_succ_self _⟩
        induction f9 generalizing ls H locs mo le ci i with
        | zero => exact absurd hf9 (Nat.not_lt_zero _)
        | succ f9 ih =>
          refine lv_iload hx hb d_M_count_32 (lv_at hl 4 rfl) ?_
          refine lv_aload_n hx hb d_M_count_34 rfl (lv_at hl 0 rfl) ?_
          refine va_get (D := (dC, dI)) (ci := 1) (v := .int (nI nn)) (C := RM) (T := TM) (N := 3) hx hb hts inM hown hK hP 0 rfl rfl 1 (by decide) (hts _ wl_M_7) (fun _ h9 => h9) rfl d_M_count_35 ?_
          refine lv_icmp_ge (tgt := 89) hx hb d_M_count_38 (by decide) (fun c3 => ?_) (fun c3 => ?_)
          · replace c3 : nn ≤ ci := (nI_leI (a := nn) (b := ci) (by omega) (by omega)).mp c3
            have ee : ci = nn := by omega
            subst ee
            subst j3
            rw [Nat.sub_self] at j4 j5
            have j4 : mo = zF max G ci (zc G ci) 0 0 := j4
            have j5 : le = zF min G ci (zc G ci) 0 16384 := j5
            refine lv_iload_n hx hb d_M_count_89 rfl (lv_at hl 1 rfl) ?_
            rcases z_sw5 x with rfl | rfl | rfl | rfl | rfl | hsw
            · refine lv_tableIn (tgt := 120) (off := 30) hx hb d_M_count_90 (by decide) (by decide) (by decide) (by decide) ?_
              refine lv_aload_n hx hb d_M_count_120 rfl (lv_at hl 0 rfl) ?_
              refine va_get (D := (dC, dI)) (ci := 1) (v := .int (nI ci)) (C := RM) (T := TM) (N := 3) hx hb hts inM hown hK hP 0 rfl rfl 1 (by decide) (hts _ wl_M_7) (fun _ h9 => h9) rfl d_M_count_121 ?_
              exact W.iret (v := nI ci) hx hb hr (fun t9 ht9 hW9 => ⟨⟨nI ci, (true, F, G), rfl, ⟨hF, Or.inl ⟨rfl, (Or.inl ⟨rfl, rfl⟩), rfl⟩⟩, by rw [ht9]; exact hP, va_K.moved hW9.alike hK, hD⟩, hS.F ht9⟩) hS.2.2 d_M_count_124
            · refine lv_tableIn (tgt := 125) (off := 35) hx hb d_M_count_90 (by decide) (by decide) (by decide) (by decide) ?_
              refine lv_aload_n hx hb d_M_count_125 rfl (lv_at hl 0 rfl) ?_
              refine cc_Vi (wc := [(h0, .inr (1, [.int (zv (!true)), .int (nI ci), .ref h1])), (h1, .inl (cA, 16385, .inl F))]) (wr := []) (tys' := [(cA, .boolean)]) ⟨hx, hb, hml, hown, hts⟩ hP hD hK hS hA [0, 1] [] [0] rfl rfl rfl (by decide) (by decide) (by decide) rfl (cM_cards l dC dI h0 h1 cA _ F G ci (zv (!true)) hF g1) (cwV 0 hts g_M_20 rfl rfl rfl (by decide +kernel) ⟨Nat.le_of_ble_eq_true rfl, Nat.le_of_ble_eq_true rfl⟩) 0 1 rfl rfl rfl rfl hl.1 rfl (Nat.le_of_ble_eq_true rfl) d_M_count_126 ⟨Nat.le_of_ble_eq_true rfl, Nat.le_of_ble_eq_true rfl⟩ (fun r_9 u H locs hw hP hD hS => ?_)
              replace hP : va_P (dC, dI) vwCl [(h0, .inr (1, [.int (zv (!true)), .int (nI ci), .ref h1])), (h1, .inl (cA, 16385, .inl F))] H := hP
              replace hD : va_D A [(h0, .inr (1, [.int (zv (!true)), .int (nI ci), .ref h1])), (h1, .inl (cA, 16385, .inl F))] := hD
              subst hw
              exact W.iret (v := nI ((ci + 31) / 32)) hx hb hr (fun t9 ht9 hW9 => ⟨⟨nI ((ci + 31) / 32), (true, F, G), rfl, ⟨hF, Or.inl ⟨rfl, (Or.inr (Or.inl ⟨rfl, rfl⟩)), rfl⟩⟩, by rw [ht9]; exact hP, va_K.moved hW9.alike hK, hD⟩, hS.F ht9⟩) hS.2.2 d_M_count_129
            · refine lv_tableIn (tgt := 130) (off := 40) hx hb d_M_count_90 (by decide) (by decide) (by decide) (by decide) ?_
              refine lv_aload_n hx hb d_M_count_130 rfl (lv_at hl 0 rfl) ?_
              refine cc_Vi (wc := [(h0, .inr (1, [.int (zv (!true)), .int (nI ci), .ref h1])), (h1, .inl (cA, 16385, .inl F))]) (wr := []) (tys' := [(cA, .boolean)]) ⟨hx, hb, hml, hown, hts⟩ hP hD hK hS hA [0, 1] [] [0] rfl rfl rfl (by decide) (by decide) (by decide) rfl (cM_pieces l dC dI h0 h1 cA _ F G ci (zv (!true)) hF g1) (cwV 0 hts g_M_39 rfl rfl rfl (by decide +kernel) ⟨Nat.le_of_ble_eq_true rfl, Nat.le_of_ble_eq_true rfl⟩) 0 1 rfl rfl rfl rfl hl.1 rfl (Nat.le_of_ble_eq_true rfl) d_M_count_131 ⟨Nat.le_of_ble_eq_true rfl, Nat.le_of_ble_eq_true rfl⟩ (fun r_9 u H locs hw hP hD hS => ?_)
              replace hP : va_P (dC, dI) vwCl [(h0, .inr (1, [.int (zv (!true)), .int (nI ci), .ref h1])), (h1, .inl (cA, 16385, .inl F))] H := hP
              replace hD : va_D A [(h0, .inr (1, [.int (zv (!true)), .int (nI ci), .ref h1])), (h1, .inl (cA, 16385, .inl F))] := hD
              subst hw
              exact W.iret (v := nI (zc G ci)) hx hb hr (fun t9 ht9 hW9 => ⟨⟨nI (zc G ci), (true, F, G), rfl, ⟨hF, Or.inl ⟨rfl, (Or.inr (Or.inr (Or.inl ⟨rfl, rfl⟩))), rfl⟩⟩, by rw [ht9]; exact hP, va_K.moved hW9.alike hK, hD⟩, hS.F ht9⟩) hS.2.2 d_M_count_134
            · refine lv_tableIn (tgt := 135) (off := 45) hx hb d_M_count_90 (by decide) (by decide) (by decide) (by decide) ?_
              refine lv_iload_n hx hb d_M_count_135 rfl (lv_at hl 2 rfl) ?_
              exact W.iret (v := nI mo) hx hb hr (fun t9 ht9 hW9 => ⟨⟨nI mo, (true, F, G), rfl, ⟨hF, Or.inl ⟨rfl, (Or.inr (Or.inr (Or.inr (Or.inl ⟨rfl, congrArg nI j4⟩)))), rfl⟩⟩, by rw [ht9]; exact hP, va_K.moved hW9.alike hK, hD⟩, hS.F ht9⟩) hS.2.2 d_M_count_136
            · refine lv_tableOut (tgt := 137) hx hb d_M_count_90 (Or.inr (by decide)) (by decide) ?_
              refine lv_iload_n hx hb d_M_count_137 rfl (lv_at hl 3 rfl) ?_
              exact W.iret (v := nI le) hx hb hr (fun t9 ht9 hW9 => ⟨⟨nI le, (true, F, G), rfl, ⟨hF, Or.inl ⟨rfl, (Or.inr (Or.inr (Or.inr (Or.inr ⟨rfl, congrArg nI j5⟩)))), rfl⟩⟩, by rw [ht9]; exact hP, va_K.moved hW9.alike hK, hD⟩, hS.F ht9⟩) hS.2.2 d_M_count_138
            · exact absurd hsw (z_nsw c1 c2)
          · replace c3 : ¬ (nn ≤ ci) := fun h9 => c3 ((nI_leI (a := nn) (b := ci) (by omega) (by omega)).mpr h9)
            have hlt : ci < nn := by omega
            have hon : G ci = true := j2.elim (fun z => absurd z (by omega)) id
            refine lv_aload_n hx hb d_M_count_41 rfl (lv_at hl 0 rfl) ?_
            refine lv_iload hx hb d_M_count_42 (lv_at hl 4 rfl) ?_
            refine cc_Vi (wc := [(h0, .inr (1, [.int (zv (!true)), .int (nI nn), .ref h1])), (h1, .inl (cA, 16385, .inl F))]) (wr := []) (tys' := [(cA, .boolean)]) ⟨hx, hb, hml, hown, hts⟩ hP hD hK hS hA [0, 1] [] [0] rfl rfl rfl (by decide) (by decide) (by decide) rfl (cM_behind l dC dI h0 h1 cA _ F G nn (zv (!true)) hF ci hlt g1 g3) (cwV 1 hts g_M_36 rfl rfl rfl (by decide +kernel) ⟨Nat.le_of_ble_eq_true rfl, Nat.le_of_ble_eq_true rfl⟩) 0 1 rfl rfl rfl rfl hl.1 rfl (Nat.le_of_ble_eq_true rfl) d_M_count_44 ⟨Nat.le_of_ble_eq_true rfl, Nat.le_of_ble_eq_true rfl⟩ (fun r_9 u H locs hw hP hD hS => ?_)
            replace hP : va_P (dC, dI) vwCl [(h0, .inr (1, [.int (zv (!true)), .int (nI nn), .ref h1])), (h1, .inl (cA, 16385, .inl F))] H := hP
            replace hD : va_D A [(h0, .inr (1, [.int (zv (!true)), .int (nI nn), .ref h1])), (h1, .inl (cA, 16385, .inl F))] := hD
            subst hw
            have zg1 := zn_ge G nn (ci + 1)
            have zh1 : zn G nn (ci + 1) ≤ nn := zn_le (by omega)
            have e3 : zn G nn (ci + 1) = nn ∨ G (zn G nn (ci + 1)) = true := z_nxo (by omega)
            have e4 : zc G (zn G nn (ci + 1)) = i + 1 := by (rw [← j3]; exact zc_next hon hlt)
            have e7 : i + 1 ≤ zc G nn := by (rw [← e4]; exact zc_mono G zh1)
            refine lv_iload hx hb d_M_count_47 (lv_at hl 4 rfl) ?_
            refine lv_isub hx hb d_M_count_49 ?_
            refine lv_topi (nm_r (show _ = nI ((zn G nn (ci + 1)) - ci) from pk_sub (by omega)) ?_)
            refine lv_istore (lv' := [(5, .int (nI ((zn G nn (ci + 1)) - ci))), (0, .ref h0), (1, .int x), (2, .int (nI mo)), (3, .int (nI le)), (4, .int (nI ci))]) hx hb d_M_count_50 hl (by decide) rfl (fun ls hl => ?_)
            refine lv_iload hx hb d_M_count_52 (lv_at hl 0 rfl) ?_
            refine lv_iload_n hx hb d_M_count_54 rfl (lv_at hl 3 rfl) ?_
            refine lv_icmp_le (tgt := 63) hx hb d_M_count_55 (by decide) (fun c4 => ?_) (fun c4 => ?_)
            · replace c4 : (zn G nn (ci + 1)) - ci ≤ mo := (nI_leI (a := (zn G nn (ci + 1)) - ci) (b := mo) (by omega) (by omega)).mp c4
              refine lv_iload_n hx hb d_M_count_63 rfl (lv_at hl 3 rfl) ?_
              refine lv_istore_n (lv' := [(2, .int (nI mo)), (5, .int (nI ((zn G nn (ci + 1)) - ci))), (0, .ref h0), (1, .int x), (3, .int (nI le)), (4, .int (nI ci))]) hx hb d_M_count_64 rfl hl (by decide) rfl (fun ls hl => ?_)
              refine lv_iload hx hb d_M_count_65 (lv_at hl 1 rfl) ?_
              refine lv_iload_n hx hb d_M_count_67 rfl (lv_at hl 4 rfl) ?_
              refine lv_icmp_ge (tgt := 76) hx hb d_M_count_68 (by decide) (fun c5 => ?_) (fun c5 => ?_)
              · replace c5 : le ≤ (zn G nn (ci + 1)) - ci := (nI_leI (a := le) (b := (zn G nn (ci + 1)) - ci) (by omega) (by omega)).mp c5
                refine lv_iload_n hx hb d_M_count_76 rfl (lv_at hl 4 rfl) ?_
                refine lv_istore_n (lv' := [(3, .int (nI le)), (2, .int (nI mo)), (5, .int (nI ((zn G nn (ci + 1)) - ci))), (0, .ref h0), (1, .int x), (4, .int (nI ci))]) hx hb d_M_count_77 rfl hl (by decide) rfl (fun ls hl => ?_)
                refine lv_aload_n hx hb d_M_count_78 rfl (lv_at hl 3 rfl) ?_
                refine lv_iload hx hb d_M_count_79 (lv_at hl 5 rfl) ?_
                refine cc_Vi (wc := [(h0, .inr (1, [.int (zv (!true)), .int (nI nn), .ref h1])), (h1, .inl (cA, 16385, .inl F))]) (wr := []) (tys' := [(cA, .boolean)]) ⟨hx, hb, hml, hown, hts⟩ hP hD hK hS hA [0, 1] [] [0] rfl rfl rfl (by decide) (by decide) (by decide) rfl (cM_behind l dC dI h0 h1 cA _ F G nn (zv (!true)) hF ci hlt g1 g3) (cwV 1 hts g_M_36 rfl rfl rfl (by decide +kernel) ⟨Nat.le_of_ble_eq_true rfl, Nat.le_of_ble_eq_true rfl⟩) 0 1 rfl rfl rfl rfl hl.1 rfl (Nat.le_of_ble_eq_true rfl) d_M_count_81 ⟨Nat.le_of_ble_eq_true rfl, Nat.le_of_ble_eq_true rfl⟩ (fun r_9 u H locs hw hP hD hS => ?_)
                replace hP : va_P (dC, dI) vwCl [(h0, .inr (1, [.int (zv (!true)), .int (nI nn), .ref h1])), (h1, .inl (cA, 16385, .inl F))] H := hP
                replace hD : va_D A [(h0, .inr (1, [.int (zv (!true)), .int (nI nn), .ref h1])), (h1, .inl (cA, 16385, .inl F))] := hD
                subst hw
                have zg2 := zn_ge G nn (ci + 1)
                have zh2 : zn G nn (ci + 1) ≤ nn := zn_le (by omega)
                have e5 : zF max G nn (zc G nn - (i + 1)) (zn G nn (ci + 1)) mo = zF max G nn (zc G nn) 0 0 := by (rw [← j4, show zc G nn - i = (zc G nn - (i + 1)) + 1 by omega]; exact congrArg (zF max G nn (zc G nn - (i + 1)) (zn G nn (ci + 1))) (show mo = max mo (zn G nn (ci + 1) - ci) by omega))
                have e6 : zF min G nn (zc G nn - (i + 1)) (zn G nn (ci + 1)) le = zF min G nn (zc G nn) 0 16384 := by (rw [← j5, show zc G nn - i = (zc G nn - (i + 1)) + 1 by omega]; exact congrArg (zF min G nn (zc G nn - (i + 1)) (zn G nn (ci + 1))) (show le = min le (zn G nn (ci + 1) - ci) by omega))
                have e8 : mo ≤ 16384 := by omega
                have e9 : le ≤ 16384 := by omega
                refine lv_istore (lv' := [(4, .int (nI (zn G nn (ci + 1)))), (3, .int (nI le)), (2, .int (nI mo)), (5, .int (nI ((zn G nn (ci + 1)) - ci))), (0, .ref h0), (1, .int x)]) hx hb d_M_count_84 hl (by decide) rfl (fun ls hl => ?_)
                refine lv_goto (tgt := 32) hx hb d_M_count_86 (by decide) ?_
                apply ih (ls := ls) (H := H) (locs := locs) (mo := mo) (le := le) (ci := zn G nn (ci + 1)) (i := i + 1) <;> first | assumption | exact lv_sub hl [4, 5, 2, 1, 0] rfl | omega
              · replace c5 : ¬ (le ≤ (zn G nn (ci + 1)) - ci) := fun h9 => c5 ((nI_leI (a := le) (b := (zn G nn (ci + 1)) - ci) (by omega) (by omega)).mpr h9)
                refine lv_iload hx hb d_M_count_71 (lv_at hl 1 rfl) ?_
                refine lv_goto (tgt := 77) hx hb d_M_count_73 (by decide) ?_
                refine lv_istore_n (lv' := [(3, .int (nI ((zn G nn (ci + 1)) - ci))), (2, .int (nI mo)), (5, .int (nI ((zn G nn (ci + 1)) - ci))), (0, .ref h0), (1, .int x), (4, .int (nI ci))]) hx hb d_M_count_77 rfl hl (by decide) rfl (fun ls hl => ?_)
                refine lv_aload_n hx hb d_M_count_78 rfl (lv_at hl 3 rfl) ?_
                refine lv_iload hx hb d_M_count_79 (lv_at hl 5 rfl) ?_
                refine cc_Vi (wc := [(h0, .inr (1, [.int (zv (!true)), .int (nI nn), .ref h1])), (h1, .inl (cA, 16385, .inl F))]) (wr := []) (tys' := [(cA, .boolean)]) ⟨hx, hb, hml, hown, hts⟩ hP hD hK hS hA [0, 1] [] [0] rfl rfl rfl (by decide) (by decide) (by decide) rfl (cM_behind l dC dI h0 h1 cA _ F G nn (zv (!true)) hF ci hlt g1 g3) (cwV 1 hts g_M_36 rfl rfl rfl (by decide +kernel) ⟨Nat.le_of_ble_eq_true rfl, Nat.le_of_ble_eq_true rfl⟩) 0 1 rfl rfl rfl rfl hl.1 rfl (Nat.le_of_ble_eq_true rfl) d_M_count_81 ⟨Nat.le_of_ble_eq_true rfl, Nat.le_of_ble_eq_true rfl⟩ (fun r_9 u H locs hw hP hD hS => ?_)
                replace hP : va_P (dC, dI) vwCl [(h0, .inr (1, [.int (zv (!true)), .int (nI nn), .ref h1])), (h1, .inl (cA, 16385, .inl F))] H := hP
                replace hD : va_D A [(h0, .inr (1, [.int (zv (!true)), .int (nI nn), .ref h1])), (h1, .inl (cA, 16385, .inl F))] := hD
                subst hw
                have zg2 := zn_ge G nn (ci + 1)
                have zh2 : zn G nn (ci + 1) ≤ nn := zn_le (by omega)
                have e5 : zF max G nn (zc G nn - (i + 1)) (zn G nn (ci + 1)) mo = zF max G nn (zc G nn) 0 0 := by (rw [← j4, show zc G nn - i = (zc G nn - (i + 1)) + 1 by omega]; exact congrArg (zF max G nn (zc G nn - (i + 1)) (zn G nn (ci + 1))) (show mo = max mo (zn G nn (ci + 1) - ci) by omega))
                have e6 : zF min G nn (zc G nn - (i + 1)) (zn G nn (ci + 1)) (zn G nn (ci + 1) - ci) = zF min G nn (zc G nn) 0 16384 := by (rw [← j5, show zc G nn - i = (zc G nn - (i + 1)) + 1 by omega]; exact congrArg (zF min G nn (zc G nn - (i + 1)) (zn G nn (ci + 1))) (show (zn G nn (ci + 1) - ci) = min le (zn G nn (ci + 1) - ci) by omega))
                have e8 : mo ≤ 16384 := by omega
                have e9 : (zn G nn (ci + 1) - ci) ≤ 16384 := by omega
                refine lv_istore (lv' := [(4, .int (nI (zn G nn (ci + 1)))), (3, .int (nI ((zn G nn (ci + 1)) - ci))), (2, .int (nI mo)), (5, .int (nI ((zn G nn (ci + 1)) - ci))), (0, .ref h0), (1, .int x)]) hx hb d_M_count_84 hl (by decide) rfl (fun ls hl => ?_)
                refine lv_goto (tgt := 32) hx hb d_M_count_86 (by decide) ?_
                apply ih (ls := ls) (H := H) (locs := locs) (mo := mo) (le := (zn G nn (ci + 1) - ci)) (ci := zn G nn (ci + 1)) (i := i + 1) <;> first | assumption | exact lv_sub hl [4, 5, 2, 1, 0] rfl | omega
            · replace c4 : ¬ ((zn G nn (ci + 1)) - ci ≤ mo) := fun h9 => c4 ((nI_leI (a := (zn G nn (ci + 1)) - ci) (b := mo) (by omega) (by omega)).mpr h9)
              refine lv_iload hx hb d_M_count_58 (lv_at hl 0 rfl) ?_
              refine lv_goto (tgt := 64) hx hb d_M_count_60 (by decide) ?_
              refine lv_istore_n (lv' := [(2, .int (nI ((zn G nn (ci + 1)) - ci))), (5, .int (nI ((zn G nn (ci + 1)) - ci))), (0, .ref h0), (1, .int x), (3, .int (nI le)), (4, .int (nI ci))]) hx hb d_M_count_64 rfl hl (by decide) rfl (fun ls hl => ?_)
              refine lv_iload hx hb d_M_count_65 (lv_at hl 1 rfl) ?_
              refine lv_iload_n hx hb d_M_count_67 rfl (lv_at hl 4 rfl) ?_
              refine lv_icmp_ge (tgt := 76) hx hb d_M_count_68 (by decide) (fun c5 => ?_) (fun c5 => ?_)
              · replace c5 : le ≤ (zn G nn (ci + 1)) - ci := (nI_leI (a := le) (b := (zn G nn (ci + 1)) - ci) (by omega) (by omega)).mp c5
                refine lv_iload_n hx hb d_M_count_76 rfl (lv_at hl 4 rfl) ?_
                refine lv_istore_n (lv' := [(3, .int (nI le)), (2, .int (nI ((zn G nn (ci + 1)) - ci))), (5, .int (nI ((zn G nn (ci + 1)) - ci))), (0, .ref h0), (1, .int x), (4, .int (nI ci))]) hx hb d_M_count_77 rfl hl (by decide) rfl (fun ls hl => ?_)
                refine lv_aload_n hx hb d_M_count_78 rfl (lv_at hl 3 rfl) ?_
                refine lv_iload hx hb d_M_count_79 (lv_at hl 5 rfl) ?_
                refine cc_Vi (wc := [(h0, .inr (1, [.int (zv (!true)), .int (nI nn), .ref h1])), (h1, .inl (cA, 16385, .inl F))]) (wr := []) (tys' := [(cA, .boolean)]) ⟨hx, hb, hml, hown, hts⟩ hP hD hK hS hA [0, 1] [] [0] rfl rfl rfl (by decide) (by decide) (by decide) rfl (cM_behind l dC dI h0 h1 cA _ F G nn (zv (!true)) hF ci hlt g1 g3) (cwV 1 hts g_M_36 rfl rfl rfl (by decide +kernel) ⟨Nat.le_of_ble_eq_true rfl, Nat.le_of_ble_eq_true rfl⟩) 0 1 rfl rfl rfl rfl hl.1 rfl (Nat.le_of_ble_eq_true rfl) d_M_count_81 ⟨Nat.le_of_ble_eq_true rfl, Nat.le_of_ble_eq_true rfl⟩ (fun r_9 u H locs hw hP hD hS => ?_)
                replace hP : va_P (dC, dI) vwCl [(h0, .inr (1, [.int (zv (!true)), .int (nI nn), .ref h1])), (h1, .inl (cA, 16385, .inl F))] H := hP
                replace hD : va_D A [(h0, .inr (1, [.int (zv (!true)), .int (nI nn), .ref h1])), (h1, .inl (cA, 16385, .inl F))] := hD
                subst hw
                have zg2 := zn_ge G nn (ci + 1)
                have zh2 : zn G nn (ci + 1) ≤ nn := zn_le (by omega)
                have e5 : zF max G nn (zc G nn - (i + 1)) (zn G nn (ci + 1)) (zn G nn (ci + 1) - ci) = zF max G nn (zc G nn) 0 0 := by (rw [← j4, show zc G nn - i = (zc G nn - (i + 1)) + 1 by omega]; exact congrArg (zF max G nn (zc G nn - (i + 1)) (zn G nn (ci + 1))) (show (zn G nn (ci + 1) - ci) = max mo (zn G nn (ci + 1) - ci) by omega))
                have e6 : zF min G nn (zc G nn - (i + 1)) (zn G nn (ci + 1)) le = zF min G nn (zc G nn) 0 16384 := by (rw [← j5, show zc G nn - i = (zc G nn - (i + 1)) + 1 by omega]; exact congrArg (zF min G nn (zc G nn - (i + 1)) (zn G nn (ci + 1))) (show le = min le (zn G nn (ci + 1) - ci) by omega))
                have e8 : (zn G nn (ci + 1) - ci) ≤ 16384 := by omega
                have e9 : le ≤ 16384 := by omega
                refine lv_istore (lv' := [(4, .int (nI (zn G nn (ci + 1)))), (3, .int (nI le)), (2, .int (nI ((zn G nn (ci + 1)) - ci))), (5, .int (nI ((zn G nn (ci + 1)) - ci))), (0, .ref h0), (1, .int x)]) hx hb d_M_count_84 hl (by decide) rfl (fun ls hl => ?_)
                refine lv_goto (tgt := 32) hx hb d_M_count_86 (by decide) ?_
                apply ih (ls := ls) (H := H) (locs := locs) (mo := (zn G nn (ci + 1) - ci)) (le := le) (ci := zn G nn (ci + 1)) (i := i + 1) <;> first | assumption | exact lv_sub hl [4, 5, 2, 1, 0] rfl | omega
              · replace c5 : ¬ (le ≤ (zn G nn (ci + 1)) - ci) := fun h9 => c5 ((nI_leI (a := le) (b := (zn G nn (ci + 1)) - ci) (by omega) (by omega)).mpr h9)
                refine lv_iload hx hb d_M_count_71 (lv_at hl 1 rfl) ?_
                refine lv_goto (tgt := 77) hx hb d_M_count_73 (by decide) ?_
                refine lv_istore_n (lv' := [(3, .int (nI ((zn G nn (ci + 1)) - ci))), (2, .int (nI ((zn G nn (ci + 1)) - ci))), (5, .int (nI ((zn G nn (ci + 1)) - ci))), (0, .ref h0), (1, .int x), (4, .int (nI ci))]) hx hb d_M_count_77 rfl hl (by decide) rfl (fun ls hl => ?_)
                refine lv_aload_n hx hb d_M_count_78 rfl (lv_at hl 3 rfl) ?_
                refine lv_iload hx hb d_M_count_79 (lv_at hl 5 rfl) ?_
                refine cc_Vi (wc := [(h0, .inr (1, [.int (zv (!true)), .int (nI nn), .ref h1])), (h1, .inl (cA, 16385, .inl F))]) (wr := []) (tys' := [(cA, .boolean)]) ⟨hx, hb, hml, hown, hts⟩ hP hD hK hS hA [0, 1] [] [0] rfl rfl rfl (by decide) (by decide) (by decide) rfl (cM_behind l dC dI h0 h1 cA _ F G nn (zv (!true)) hF ci hlt g1 g3) (cwV 1 hts g_M_36 rfl rfl rfl (by decide +kernel) ⟨Nat.le_of_ble_eq_true rfl, Nat.le_of_ble_eq_true rfl⟩) 0 1 rfl rfl rfl rfl hl.1 rfl (Nat.le_of_ble_eq_true rfl) d_M_count_81 ⟨Nat.le_of_ble_eq_true rfl, Nat.le_of_ble_eq_true rfl⟩ (fun r_9 u H locs hw hP hD hS => ?_)
                replace hP : va_P (dC, dI) vwCl [(h0, .inr (1, [.int (zv (!true)), .int (nI nn), .ref h1])), (h1, .inl (cA, 16385, .inl F))] H := hP
                replace hD : va_D A [(h0, .inr (1, [.int (zv (!true)), .int (nI nn), .ref h1])), (h1, .inl (cA, 16385, .inl F))] := hD
                subst hw
                have zg2 := zn_ge G nn (ci + 1)
                have zh2 : zn G nn (ci + 1) ≤ nn := zn_le (by omega)
                have e5 : zF max G nn (zc G nn - (i + 1)) (zn G nn (ci + 1)) (zn G nn (ci + 1) - ci) = zF max G nn (zc G nn) 0 0 := by (rw [← j4, show zc G nn - i = (zc G nn - (i + 1)) + 1 by omega]; exact congrArg (zF max G nn (zc G nn - (i + 1)) (zn G nn (ci + 1))) (show (zn G nn (ci + 1) - ci) = max mo (zn G nn (ci + 1) - ci) by omega))
                have e6 : zF min G nn (zc G nn - (i + 1)) (zn G nn (ci + 1)) (zn G nn (ci + 1) - ci) = zF min G nn (zc G nn) 0 16384 := by (rw [← j5, show zc G nn - i = (zc G nn - (i + 1)) + 1 by omega]; exact congrArg (zF min G nn (zc G nn - (i + 1)) (zn G nn (ci + 1))) (show (zn G nn (ci + 1) - ci) = min le (zn G nn (ci + 1) - ci) by omega))
                have e8 : (zn G nn (ci + 1) - ci) ≤ 16384 := by omega
                have e9 : (zn G nn (ci + 1) - ci) ≤ 16384 := by omega
                refine lv_istore (lv' := [(4, .int (nI (zn G nn (ci + 1)))), (3, .int (nI ((zn G nn (ci + 1)) - ci))), (2, .int (nI ((zn G nn (ci + 1)) - ci))), (5, .int (nI ((zn G nn (ci + 1)) - ci))), (0, .ref h0), (1, .int x)]) hx hb d_M_count_84 hl (by decide) rfl (fun ls hl => ?_)
                refine lv_goto (tgt := 32) hx hb d_M_count_86 (by decide) ?_
                apply ih (ls := ls) (H := H) (locs := locs) (mo := (zn G nn (ci + 1) - ci)) (le := (zn G nn (ci + 1) - ci)) (ci := zn G nn (ci + 1)) (i := i + 1) <;> first | assumption | exact lv_sub hl [4, 5, 2, 1, 0] rfl | omega
      · exact absurd c9 (by decide)
set_option maxHeartbeats 4000000 in
set_option maxRecDepth 100000 in
/-- StartTableModel() -/
theorem cM_init (l : Launch) (dC : Nat → ClassId) (dI : Nat → Nat → Nat) (h0 : Nat) (sz : Nat) : Met l y_M_init ws_M_init ({ frames := 1, cells := 1, slots := 16385, locals := 20 }) (va_Pc [.ref h0] (cc_P (dC, dI) vwCl ([(h0, .inr (1, [.int 0, .int 0, .null]))] : va_W) [] sz)) (va_Qv (S := Nat × ClassId × (Nat → Int32)) (fun u => MF u.2.2 (fun j => decide (j = 0 ∨ j = 1024))) (fun u t => cc_B (dC, dI) vwCl (tM u.2.1) (va_A ([(h0, .inr (1, [.int 0, .int 0, .null]))] : va_W) sz) (wM h0 u.1 u.2.1 0 (nI 1024) u.2.2) t) (va_A ([(h0, .inr (1, [.int 0, .int 0, .null]))] : va_W) sz)) 1 16385 (va_A ([(h0, .inr (1, [.int 0, .int 0, .null]))] : va_W) sz) := by
  refine Met.ofW (cc := c_M_init) (maxL := 1) (ret := none) (by decide) rfl ?_
  intro p e s m args below meth c s₁ B hml hv
  obtain ⟨rfl, hsz, hP, hK, hD0⟩ := hv
  have hx := B.exec
  have hb := B.bytes
  have hr := B.returns
  have hts : ∀ w ∈ zAll, w.before _ s = true := fun w h => atoms_spec (ws := ws_M_init) B.pre w (List.mem_cons_of_mem _ h)
  have hown : s.vm.findClass RM = some m.cls := findClass_of_methodNamed B.named
  have hlocks := B.notSynchronized
  have hin : meth.name = "<init>" := (name_of_methodNamed B.named B.method).1
  subst hsz
  have hD := hD0.self (sz := s.heap.size)
  generalize hAe : va_A ([(h0, .inr (1, [.int 0, .int 0, .null]))] : va_W) s.heap.size = A at hD ⊢
  have hA : ∀ q : Nat, s.heap.size ≤ q → A q := fun q h => by rw [← hAe]; exact Or.inr h
  have hS : va_S A s.heap s.heap [] := va_S.rf
  replace hP : va_P (dC, dI) vwCl [(h0, .inr (1, [.int 0, .int 0, .null]))] s.heap := hP
  replace hD : va_D A [(h0, .inr (1, [.int 0, .int 0, .null]))] := hD
  have hl := lv_entry ([.ref h0]) (n := 1) (Nat.le_of_ble_eq_true rfl)
  rw [lg_entry_eq]
  generalize (lg_sl ([.ref h0]) ++ List.replicate (1 - (lg_sl ([.ref h0])).length) Slot.unset).toArray = ls at hl ⊢
  replace hl : lv_has ls 1 [(0, .ref h0)] := hl
  refine lv_aload_n hx hb d_M_init_0 rfl (lv_at hl 0 rfl) ?_
  refine W.objInit hx hb hown (hts _ wl_M_1) (hts _ wim_obj) (hts _ wc_obj) rfl (by rw [hml]; exact hl.1) rfl d_M_init_1 (Nat.le_of_ble_eq_true rfl) (Nat.le_of_ble_eq_true rfl) ?_
  refine W.eq (g2 := F0 m 4 ls []) rfl ?_
  refine lv_aload_n hx hb d_M_init_4 rfl (lv_at hl 0 rfl) ?_
  refine lv_sipush (v := nI 1024) hx hb d_M_init_5 (by decide) ?_
  refine va_put (D := (dC, dI)) (ci := 1) (v := .int (nI 1024)) (ty := .int) (C := RM) (T := TM) (N := 3) hx hb hts inM tyM tyM_ok nmM hown hK hP hD hS 0 rfl rfl 1 (by decide) (hts _ wl_M_7) (fun _ h9 => h9) rfl (by decide +kernel) rfl rfl (Nat.le_of_ble_eq_true rfl) d_M_init_8 (fun H locs hP hD hS => ?_)
  replace hP : va_P (dC, dI) vwCl [(h0, .inr (1, [.int 0, .int (nI 1024), .null]))] H := hP
  replace hD : va_D A [(h0, .inr (1, [.int 0, .int (nI 1024), .null]))] := hD
  refine lv_aload_n hx hb d_M_init_11 rfl (lv_at hl 0 rfl) ?_
  refine lv_sipush (v := nI 16385) hx hb d_M_init_12 (by decide) ?_
  refine va_newa (atype := .boolean) (N' := 16385) (a0 := (16385, .inl (fun _ => 0))) (ty := .boolean) (n := nI 16385) hx hb (hts _ wac_bool) rfl hK hP hD hS hA (fun _ => rfl) (by decide) (by decide) (by decide) (by decide) (by decide) d_M_init_15 (fun h1 cA H hK hP hD hS => ?_)
  replace hK : va_K (dC, dI) vwCl [(cA, .boolean)] s := hK
  replace hP : va_P (dC, dI) vwCl [(h0, .inr (1, [.int 0, .int (nI 1024), .null])), (h1, .inl (cA, 16385, .inl (fun _ => 0)))] H := hP
  replace hD : va_D A [(h0, .inr (1, [.int 0, .int (nI 1024), .null])), (h1, .inl (cA, 16385, .inl (fun _ => 0)))] := hD
  refine W.widen (k := 1) (n := 16385) (by decide) (by decide) ?_
  refine va_putF (D := (dC, dI)) (ci := 1) (v := .ref h1) (ty := .array .boolean) (C := RM) (T := TM) (N := 3) hx hb hts inM tyM tyM_ok nmM hown hK hP hD hS 0 rfl rfl 2 (by decide) (hts _ wl_M_13) (fun _ h9 => h9) rfl hin rfl (by decide +kernel) rfl rfl (Nat.le_of_ble_eq_true rfl) d_M_init_17 (fun H locs hP hD hS => ?_)
  replace hP : va_P (dC, dI) vwCl [(h0, .inr (1, [.int 0, .int (nI 1024), .ref h1])), (h1, .inl (cA, 16385, .inl (fun _ => 0)))] H := hP
  replace hD : va_D A [(h0, .inr (1, [.int 0, .int (nI 1024), .ref h1])), (h1, .inl (cA, 16385, .inl (fun _ => 0)))] := hD
  refine lv_aload_n hx hb d_M_init_20 rfl (lv_at hl 0 rfl) ?_
  refine va_get (D := (dC, dI)) (ci := 1) (v := .ref h1) (C := RM) (T := TM) (N := 3) hx hb hts inM hown hK hP 0 rfl rfl 2 (by decide) (hts _ wl_M_13) (fun _ h9 => h9) rfl d_M_init_21 ?_
  refine lv_iconst (v := nI 0) hx hb d_M_init_24 (by decide) ?_
  refine lv_iconst (v := nI 1) hx hb d_M_init_25 (by decide) ?_
  refine va_zast hx hb hK hP hD hS 1 0 rfl rfl (vp_in_nI (by omega) (by decide)) d_M_init_26 (fun H locs hP hD hS => ?_)
  rw [nI_clamp (by omega)] at hP hD
  rw [show vp_nar .boolean (nI 1) = nI 1 from by decide +kernel] at hP hD
  replace hP : va_P (dC, dI) vwCl [(h0, .inr (1, [.int 0, .int (nI 1024), .ref h1])), (h1, .inl (cA, 16385, .inl (upd (fun _ => 0) 0 (nI 1))))] H := hP
  replace hD : va_D A [(h0, .inr (1, [.int 0, .int (nI 1024), .ref h1])), (h1, .inl (cA, 16385, .inl (upd (fun _ => 0) 0 (nI 1))))] := hD
  refine lv_aload_n hx hb d_M_init_27 rfl (lv_at hl 0 rfl) ?_
  refine va_get (D := (dC, dI)) (ci := 1) (v := .ref h1) (C := RM) (T := TM) (N := 3) hx hb hts inM hown hK hP 0 rfl rfl 2 (by decide) (hts _ wl_M_13) (fun _ h9 => h9) rfl d_M_init_28 ?_
  refine lv_sipush (v := nI 1024) hx hb d_M_init_31 (by decide) ?_
  refine lv_iconst (v := nI 1) hx hb d_M_init_34 (by decide) ?_
  refine va_zast hx hb hK hP hD hS 1 0 rfl rfl (vp_in_nI (by omega) (by decide)) d_M_init_35 (fun H locs hP hD hS => ?_)
  rw [nI_clamp (by omega)] at hP hD
  rw [show vp_nar .boolean (nI 1) = nI 1 from by decide +kernel] at hP hD
  replace hP : va_P (dC, dI) vwCl [(h0, .inr (1, [.int 0, .int (nI 1024), .ref h1])), (h1, .inl (cA, 16385, .inl (upd (upd (fun _ => 0) 0 (nI 1)) 1024 (nI 1))))] H := hP
  replace hD : va_D A [(h0, .inr (1, [.int 0, .int (nI 1024), .ref h1])), (h1, .inl (cA, 16385, .inl (upd (upd (fun _ => 0) 0 (nI 1)) 1024 (nI 1))))] := hD
  refine W.widen (k := 1) (n := 16385) (by decide) (by decide) ?_
  exact W.vret hx hb hr (fun t9 ht9 hW9 => ⟨⟨(h1, cA, upd (upd (fun _ => 0) 0 (nI 1)) 1024 (nI 1)), rfl, MF_init, by rw [ht9]; exact hP, va_K.moved hW9.alike hK, hD⟩, hS.F ht9⟩) hS.2.2 d_M_init_36
