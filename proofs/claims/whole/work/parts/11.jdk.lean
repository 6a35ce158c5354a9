set_option maxHeartbeats 4000000 in
set_option maxRecDepth 100000 in
/-- Arrays.fill(a, x): every place holds x -/
theorem k_fill (l : Launch) (dC : Nat → ClassId) (dI : Nat → Nat → Nat) (h0 : Nat) (cA : ClassId) (sz : Nat) (N : Nat) (g : Nat → Int32) (x : Int32) (hN : N < 2 ^ 31) : Met l y_fill ws_fill ({ frames := 0, cells := 0, slots := 0, locals := 0 }) (va_Pc [.ref h0, .int x] (cc_P (dC, dI) vwCl ([(h0, .inl (cA, N, .inl g))] : va_W) [(cA, .int)] sz)) (va_Qv (S := Nat → Int32) (fun u : Nat → Int32 => ∀ j, j < N → u j = x) (fun u t => cc_B (dC, dI) vwCl [(cA, .int)] (va_A ([(h0, .inl (cA, N, .inl g))] : va_W) sz) ((fun u : Nat → Int32 => ([(h0, .inl (cA, N, .inl u))] : va_W)) u) t) (va_A ([(h0, .inl (cA, N, .inl g))] : va_W) sz)) 0 0 (va_A ([(h0, .inl (cA, N, .inl g))] : va_W) sz) := by
  refine Met.ofW (cc := c_fill) (maxL := 4) (ret := none) (by decide) rfl ?_
  intro p e s m args below meth c s₁ B hml hv
  obtain ⟨rfl, hsz, hP, hK, hD0⟩ := hv
  have hx := B.exec
  have hb := B.bytes
  have hr := B.returns
  have hts : ∀ w ∈ zAll, w.before _ s = true := fun w h => atoms_spec (ws := ws_fill) B.pre w (List.mem_cons_of_mem _ h)
  have hown : s.vm.findClass RA = some m.cls := findClass_of_methodNamed B.named
  have hlocks := B.notSynchronized
  subst hsz
  have hD := hD0.self (sz := s.heap.size)
  generalize hAe : va_A ([(h0, .inl (cA, N, .inl g))] : va_W) s.heap.size = A at hD ⊢
  have hA : ∀ q : Nat, s.heap.size ≤ q → A q := fun q h => by rw [← hAe]; exact Or.inr h
  have hS : va_S A s.heap s.heap [] := va_S.rf
  replace hP : va_P (dC, dI) vwCl [(h0, .inl (cA, N, .inl g))] s.heap := hP
  replace hD : va_D A [(h0, .inl (cA, N, .inl g))] := hD
  have hl := lv_entry ([.ref h0, .int x]) (n := 4) (Nat.le_of_ble_eq_true rfl)
  rw [lg_entry_eq]
  generalize (lg_sl ([.ref h0, .int x]) ++ List.replicate (4 - (lg_sl ([.ref h0, .int x])).length) Slot.unset).toArray = ls at hl ⊢
  replace hl : lv_has ls 4 [(0, .ref h0), (1, .int x)] := hl
  refine lv_iconst (v := nI 0) hx hb d_fill_0 (by decide) ?_
  refine lv_istore_n (lv' := [(2, .int (nI 0)), (0, .ref h0), (1, .int x)]) hx hb d_fill_1 rfl hl (by decide) rfl (fun ls hl => ?_)
  refine lv_aload_n hx hb d_fill_2 rfl (lv_at hl 1 rfl) ?_
  refine va_alen (v := nI N) hx hb hK hP 0 0 rfl rfl rfl d_fill_3 ?_
  refine lv_istore_n (lv' := [(3, .int (nI N)), (2, .int (nI 0)), (0, .ref h0), (1, .int x)]) hx hb d_fill_4 rfl hl (by decide) rfl (fun ls hl => ?_)
  refine cc_from hP hD hS (fun H locs hP hD hS => ?_)
  obtain ⟨i, e_i⟩ : ∃ i : Nat, i = 0 := ⟨_, rfl⟩
  obtain ⟨f, e_f⟩ : ∃ f : Nat → Int32, f = g := ⟨_, rfl⟩
  replace hl : lv_has ls 4 [(0, .ref h0), (1, .int x), (2, .int (nI i)), (3, .int (nI N))] := by (subst e_i; subst e_f; exact lv_sub hl [2, 3, 1, 0] rfl)
  replace hP : va_P (dC, dI) vwCl [(h0, .inl (cA, N, .inl f))] H := by (subst e_i; subst e_f; exact hP)
  replace hD : va_D A [(h0, .inl (cA, N, .inl f))] := by (subst e_i; subst e_f; exact hD)
  have hi : i ≤ N := by (subst e_i; subst e_f; exact Nat.zero_le _)
  have hv : ∀ j, j < i → f j = x := by (subst e_i; subst e_f; exact fun j h => absurd h (Nat.not_lt_zero _))
  clear e_i e_f
  obtain ⟨f9, hf9⟩ : ∃ f9 : Nat, N - i < f9 := ⟨_, Nat.lt_succ_self _⟩
  induction f9 generalizing ls H locs i f with
  | zero => exact absurd hf9 (Nat.not_lt_zero _)
  | succ f9 ih =>
    refine lv_iload_n hx hb d_fill_5 rfl (lv_at hl 2 rfl) ?_
    refine lv_iload_n hx hb d_fill_6 rfl (lv_at hl 3 rfl) ?_
    refine lv_icmp_ge (tgt := 20) hx hb d_fill_7 (by decide) (fun c1 => ?_) (fun c1 => ?_)
    · replace c1 : N ≤ i := (nI_leI (a := N) (b := i) (by omega) (by omega)).mp c1
      exact W.vret hx hb hr (fun t9 ht9 hW9 => ⟨⟨f, rfl, fun j hj => hv j (by omega), by rw [ht9]; exact hP, va_K.moved hW9.alike hK, hD⟩, hS.F ht9⟩) hS.2.2 d_fill_20
    · replace c1 : ¬ (N ≤ i) := fun h9 => c1 ((nI_leI (a := N) (b := i) (by omega) (by omega)).mpr h9)
      have hlt : i < N := by omega
      have hv2 : ∀ j, j < i + 1 → upd f i x j = x := fun j hj => by
        by_cases q : j = i
        · rw [q, pk_us]
        · rw [pk_un q]; exact hv j (by omega)
      refine lv_aload_n hx hb d_fill_10 rfl (lv_at hl 0 rfl) ?_
      refine lv_iload_n hx hb d_fill_11 rfl (lv_at hl 2 rfl) ?_
      refine lv_iload_n hx hb d_fill_12 rfl (lv_at hl 1 rfl) ?_
      refine va_iast hx hb hK hP hD hS 0 0 rfl rfl (vp_in_nI hlt hN) d_fill_13 (fun H locs hP hD hS => ?_)
      rw [nI_clamp (by omega)] at hP hD
      replace hP : va_P (dC, dI) vwCl [(h0, .inl (cA, N, .inl (upd f i x)))] H := hP
      replace hD : va_D A [(h0, .inl (cA, N, .inl (upd f i x)))] := hD
      refine lv_iinc (v := nI (i + 1)) (lv' := [(2, .int (nI (i + 1))), (0, .ref h0), (1, .int x), (3, .int (nI N))]) hx hb d_fill_14 hl (k := 2) rfl (nI_1 _) (by decide) rfl (fun ls hl => ?_)
      refine lv_goto (tgt := 5) hx hb d_fill_17 (by decide) ?_
      apply ih (ls := ls) (H := H) (locs := locs) (i := i + 1) (f := upd f i x) <;> first | assumption | exact lv_sub hl [1, 2, 0, 3] rfl | omega
set_option maxHeartbeats 4000000 in
set_option maxRecDepth 100000 in
/-- Integer.numberOfLeadingZeros(x), t the highest set bit -/
theorem k_nlz (l : Launch) (dC : Nat → ClassId) (dI : Nat → Nat → Nat)  (sz : Nat) (x : Int32) (t : Nat) (ht : t < 32) (g1 : bt x t = true) (g2 : ∀ k, t < k → k < 32 → bt x k = false) : Met l y_nlz ws_nlz ({ frames := 0, cells := 0, slots := 0, locals := 0 }) (va_Pc [.int x] (cc_P (dC, dI) vwCl ([] : va_W) [] sz)) (va_Qi (S := Unit) (fun (r : Int32) (_ : Unit) => r = nI (31 - t)) (fun u t => cc_B (dC, dI) vwCl [] (va_A ([] : va_W) sz) ((fun _ : Unit => ([] : va_W)) u) t) (va_A ([] : va_W) sz)) 0 0 (va_A ([] : va_W) sz) := by
  refine Met.ofW (cc := c_nlz) (maxL := 2) (ret := (some .int)) (by decide) rfl ?_
  intro p e s m args below meth c s₁ B hml hv
  obtain ⟨rfl, hsz, hP, hK, hD0⟩ := hv
  have hx := B.exec
  have hb := B.bytes
  have hr := B.returns
  have hts : ∀ w ∈ zAll, w.before _ s = true := fun w h => atoms_spec (ws := ws_nlz) B.pre w (List.mem_cons_of_mem _ h)
  have hown : s.vm.findClass RI = some m.cls := findClass_of_methodNamed B.named
  have hlocks := B.notSynchronized
  subst hsz
  have hD := hD0.self (sz := s.heap.size)
  generalize hAe : va_A ([] : va_W) s.heap.size = A at hD ⊢
  have hA : ∀ q : Nat, s.heap.size ≤ q → A q := fun q h => by rw [← hAe]; exact Or.inr h
  have hS : va_S A s.heap s.heap [] := va_S.rf
  replace hP : va_P (dC, dI) vwCl [] s.heap := hP
  replace hD : va_D A [] := hD
  have hl := lv_entry ([.int x]) (n := 2) (Nat.le_of_ble_eq_true rfl)
  rw [lg_entry_eq]
  generalize (lg_sl ([.int x]) ++ List.replicate (2 - (lg_sl ([.int x])).length) Slot.unset).toArray = ls at hl ⊢
  replace hl : lv_has ls 2 [(0, .int x)] := hl
  have a1 := z_ge g1
  have a2 := z_lt g2
  have a3 := x.toBitVec.isLt
  have ex := z_num x
  generalize x.toBitVec.toNat = v at a1 a2 a3 ex
  refine lv_iload_n hx hb d_nlz_0 rfl (lv_at hl 0 rfl) ?_
  refine lv_if_gt (tgt := 15) hx hb d_nlz_1 (by decide) (fun c1 => ?_) (fun c1 => ?_)
  · have ht2 : t < 31 := z_nlz1 ht ex a1 c1 a3
    have hv : v < 2147483648 := z_lt31 ht2 a2
    have hv0 : 1 ≤ v := Nat.le_trans (z_p1 t) a1
    subst ex
    refine lv_bipush (v := nI 31) hx hb d_nlz_15 (by decide) ?_
    refine lv_istore_n (lv' := [(1, .int (nI 31)), (0, .int (nI v))]) hx hb d_nlz_17 rfl hl (by decide) rfl (fun ls hl => ?_)
    refine lv_iload_n hx hb d_nlz_18 rfl (lv_at hl 1 rfl) ?_
    refine lv_ldcw (v := 65536) hx hb hown (hts _ wk_264) d_nlz_19 ?_
    refine lv_topi (nm_r (show _ = nI 65536 from by decide) ?_)
    refine lv_icmp_lt (tgt := 33) hx hb d_nlz_22 (by decide) (fun c3 => ?_) (fun c3 => ?_)
    · replace c3 : v < 65536 := (nI_ltI (a := v) (b := 65536) (by omega) (by omega)).mp c3
      refine lv_iload_n hx hb d_nlz_33 rfl (lv_at hl 1 rfl) ?_
      refine lv_sipush (v := nI 256) hx hb d_nlz_34 (by decide) ?_
      refine lv_icmp_lt (tgt := 48) hx hb d_nlz_37 (by decide) (fun c4 => ?_) (fun c4 => ?_)
      · replace c4 : v < 256 := (nI_ltI (a := v) (b := 256) (by omega) (by omega)).mp c4
        refine lv_iload_n hx hb d_nlz_48 rfl (lv_at hl 1 rfl) ?_
        refine lv_bipush (v := nI 16) hx hb d_nlz_49 (by decide) ?_
        refine lv_icmp_lt (tgt := 61) hx hb d_nlz_51 (by decide) (fun c5 => ?_) (fun c5 => ?_)
        · replace c5 : v < 16 := (nI_ltI (a := v) (b := 16) (by omega) (by omega)).mp c5
          refine lv_iload_n hx hb d_nlz_61 rfl (lv_at hl 1 rfl) ?_
          refine lv_iconst (v := nI 4) hx hb d_nlz_62 (by decide) ?_
          refine lv_icmp_lt (tgt := 73) hx hb d_nlz_63 (by decide) (fun c6 => ?_) (fun c6 => ?_)
          · replace c6 : v < 4 := (nI_ltI (a := v) (b := 4) (by omega) (by omega)).mp c6
            refine lv_iload_n hx hb d_nlz_73 rfl (lv_at hl 0 rfl) ?_
            refine lv_iload_n hx hb d_nlz_74 rfl (lv_at hl 1 rfl) ?_
            refine lv_iconst (v := nI 1) hx hb d_nlz_75 (by decide) ?_
            refine lv_iushr (v := zu (nI v) (nI 1)) hx hb d_nlz_76 rfl ?_
            refine lv_topi (nm_r (show _ = nI (v / 2) from pk_ushrN (by omega) _ 1 (by decide)) ?_)
            refine lv_isub hx hb d_nlz_77 ?_
            refine lv_topi (nm_r (show _ = nI (31 - (v / 2)) from pk_sub (by omega)) ?_)
            exact W.iret (v := nI (31 - (v / 2))) hx hb hr (fun t9 ht9 hW9 => ⟨⟨nI (31 - (v / 2)), (), rfl, congrArg nI (by have z9 := z_leaf (s := 0) (q := 1) (by decide) a1 a2 (by omega) (by omega); omega), by rw [ht9]; exact hP, va_K.moved hW9.alike hK, hD⟩, hS.F ht9⟩) hS.2.2 d_nlz_78
          · replace c6 : ¬ (v < 4) := fun h9 => c6 ((nI_ltI (a := v) (b := 4) (by omega) (by omega)).mpr h9)
            refine lv_iinc (v := nI 29) (lv' := [(1, .int (nI 29)), (0, .int (nI v))]) hx hb d_nlz_66 hl (k := 0) rfl (by decide) (by decide) rfl (fun ls hl => ?_)
            refine lv_iload_n hx hb d_nlz_69 rfl (lv_at hl 1 rfl) ?_
            refine lv_iconst (v := nI 2) hx hb d_nlz_70 (by decide) ?_
            refine lv_iushr (v := zu (nI v) (nI 2)) hx hb d_nlz_71 rfl ?_
            refine lv_topi (nm_r (show _ = nI (v / 4) from pk_ushrN (by omega) _ 2 (by decide)) ?_)
            refine lv_istore_n (lv' := [(0, .int (nI (v / 4))), (1, .int (nI 29))]) hx hb d_nlz_72 rfl hl (by decide) rfl (fun ls hl => ?_)
            refine lv_iload_n hx hb d_nlz_73 rfl (lv_at hl 1 rfl) ?_
            refine lv_iload_n hx hb d_nlz_74 rfl (lv_at hl 0 rfl) ?_
            refine lv_iconst (v := nI 1) hx hb d_nlz_75 (by decide) ?_
            refine lv_iushr (v := zu (nI (v / 4)) (nI 1)) hx hb d_nlz_76 rfl ?_
            refine lv_topi (nm_r (show _ = nI ((v / 4) / 2) from pk_ushrN (by omega) _ 1 (by decide)) ?_)
            refine lv_isub hx hb d_nlz_77 ?_
            refine lv_topi (nm_r (show _ = nI (29 - ((v / 4) / 2)) from pk_sub (by omega)) ?_)
            exact W.iret (v := nI (29 - ((v / 4) / 2))) hx hb hr (fun t9 ht9 hW9 => ⟨⟨nI (29 - ((v / 4) / 2)), (), rfl, congrArg nI (by have z9 := z_leaf (s := 2) (q := 4) (by decide) a1 a2 (by omega) (by omega); omega), by rw [ht9]; exact hP, va_K.moved hW9.alike hK, hD⟩, hS.F ht9⟩) hS.2.2 d_nlz_78
        · replace c5 : ¬ (v < 16) := fun h9 => c5 ((nI_ltI (a := v) (b := 16) (by omega) (by omega)).mpr h9)
          refine lv_iinc (v := nI 27) (lv' := [(1, .int (nI 27)), (0, .int (nI v))]) hx hb d_nlz_54 hl (k := 0) rfl (by decide) (by decide) rfl (fun ls hl => ?_)
          refine lv_iload_n hx hb d_nlz_57 rfl (lv_at hl 1 rfl) ?_
          refine lv_iconst (v := nI 4) hx hb d_nlz_58 (by decide) ?_
          refine lv_iushr (v := zu (nI v) (nI 4)) hx hb d_nlz_59 rfl ?_
          refine lv_topi (nm_r (show _ = nI (v / 16) from pk_ushrN (by omega) _ 4 (by decide)) ?_)
          refine lv_istore_n (lv' := [(0, .int (nI (v / 16))), (1, .int (nI 27))]) hx hb d_nlz_60 rfl hl (by decide) rfl (fun ls hl => ?_)
          refine lv_iload_n hx hb d_nlz_61 rfl (lv_at hl 0 rfl) ?_
          refine lv_iconst (v := nI 4) hx hb d_nlz_62 (by decide) ?_
          refine lv_icmp_lt (tgt := 73) hx hb d_nlz_63 (by decide) (fun c6 => ?_) (fun c6 => ?_)
          · replace c6 : v / 16 < 4 := (nI_ltI (a := v / 16) (b := 4) (by omega) (by omega)).mp c6
            refine lv_iload_n hx hb d_nlz_73 rfl (lv_at hl 1 rfl) ?_
            refine lv_iload_n hx hb d_nlz_74 rfl (lv_at hl 0 rfl) ?_
            refine lv_iconst (v := nI 1) hx hb d_nlz_75 (by decide) ?_
            refine lv_iushr (v := zu (nI (v / 16)) (nI 1)) hx hb d_nlz_76 rfl ?_
            refine lv_topi (nm_r (show _ = nI ((v / 16) / 2) from pk_ushrN (by omega) _ 1 (by decide)) ?_)
            refine lv_isub hx hb d_nlz_77 ?_
            refine lv_topi (nm_r (show _ = nI (27 - ((v / 16) / 2)) from pk_sub (by omega)) ?_)
            exact W.iret (v := nI (27 - ((v / 16) / 2))) hx hb hr (fun t9 ht9 hW9 => ⟨⟨nI (27 - ((v / 16) / 2)), (), rfl, congrArg nI (by have z9 := z_leaf (s := 4) (q := 16) (by decide) a1 a2 (by omega) (by omega); omega), by rw [ht9]; exact hP, va_K.moved hW9.alike hK, hD⟩, hS.F ht9⟩) hS.2.2 d_nlz_78
          · replace c6 : ¬ (v / 16 < 4) := fun h9 => c6 ((nI_ltI (a := v / 16) (b := 4) (by omega) (by omega)).mpr h9)
            refine lv_iinc (v := nI 25) (lv' := [(1, .int (nI 25)), (0, .int (nI (v / 16)))]) hx hb d_nlz_66 hl (k := 1) rfl (by decide) (by decide) rfl (fun ls hl => ?_)
            refine lv_iload_n hx hb d_nlz_69 rfl (lv_at hl 1 rfl) ?_
            refine lv_iconst (v := nI 2) hx hb d_nlz_70 (by decide) ?_
            refine lv_iushr (v := zu (nI (v / 16)) (nI 2)) hx hb d_nlz_71 rfl ?_
            refine lv_topi (nm_r (show _ = nI ((v / 16) / 4) from pk_ushrN (by omega) _ 2 (by decide)) ?_)
            refine lv_istore_n (lv' := [(0, .int (nI ((v / 16) / 4))), (1, .int (nI 25))]) hx hb d_nlz_72 rfl hl (by decide) rfl (fun ls hl => ?_)
            refine lv_iload_n hx hb d_nlz_73 rfl (lv_at hl 1 rfl) ?_
            refine lv_iload_n hx hb d_nlz_74 rfl (lv_at hl 0 rfl) ?_
            refine lv_iconst (v := nI 1) hx hb d_nlz_75 (by decide) ?_
            refine lv_iushr (v := zu (nI ((v / 16) / 4)) (nI 1)) hx hb d_nlz_76 rfl ?_
            refine lv_topi (nm_r (show _ = nI (((v / 16) / 4) / 2) from pk_ushrN (by omega) _ 1 (by decide)) ?_)
            refine lv_isub hx hb d_nlz_77 ?_
            refine lv_topi (nm_r (show _ = nI (25 - (((v / 16) / 4) / 2)) from pk_sub (by omega)) ?_)
            exact W.iret (v := nI (25 - (((v / 16) / 4) / 2))) hx hb hr (fun t9 ht9 hW9 => ⟨⟨nI (25 - (((v / 16) / 4) / 2)), (), rfl, congrArg nI (by have z9 := z_leaf (s := 6) (q := 64) (by decide) a1 a2 (by omega) (by omega); omega), by rw [ht9]; exact hP, va_K.moved hW9.alike hK, hD⟩, hS.F ht9⟩) hS.2.2 d_nlz_78
      · replace c4 : ¬ (v < 256) := fun h9 => c4 ((nI_ltI (a := v) (b := 256) (by omega) (by omega)).mpr h9)
        refine lv_iinc (v := nI 23) (lv' := [(1, .int (nI 23)), (0, .int (nI v))]) hx hb d_nlz_40 hl (k := 0) rfl (by decide) (by decide) rfl (fun ls hl => ?_)
        refine lv_iload_n hx hb d_nlz_43 rfl (lv_at hl 1 rfl) ?_
        refine lv_bipush (v := nI 8) hx hb d_nlz_44 (by decide) ?_
        refine lv_iushr (v := zu (nI v) (nI 8)) hx hb d_nlz_46 rfl ?_
        refine lv_topi (nm_r (show _ = nI (v / 256) from pk_ushrN (by omega) _ 8 (by decide)) ?_)
        refine lv_istore_n (lv' := [(0, .int (nI (v / 256))), (1, .int (nI 23))]) hx hb d_nlz_47 rfl hl (by decide) rfl (fun ls hl => ?_)
        refine lv_iload_n hx hb d_nlz_48 rfl (lv_at hl 0 rfl) ?_
        refine lv_bipush (v := nI 16) hx hb d_nlz_49 (by decide) ?_
        refine lv_icmp_lt (tgt := 61) hx hb d_nlz_51 (by decide) (fun c5 => ?_) (fun c5 => ?_)
        · replace c5 : v / 256 < 16 := (nI_ltI (a := v / 256) (b := 16) (by omega) (by omega)).mp c5
          refine lv_iload_n hx hb d_nlz_61 rfl (lv_at hl 0 rfl) ?_
          refine lv_iconst (v := nI 4) hx hb d_nlz_62 (by decide) ?_
          refine lv_icmp_lt (tgt := 73) hx hb d_nlz_63 (by decide) (fun c6 => ?_) (fun c6 => ?_)
          · replace c6 : v / 256 < 4 := (nI_ltI (a := v / 256) (b := 4) (by omega) (by omega)).mp c6
            refine lv_iload_n hx hb d_nlz_73 rfl (lv_at hl 1 rfl) ?_
            refine lv_iload_n hx hb d_nlz_74 rfl (lv_at hl 0 rfl) ?_
            refine lv_iconst (v := nI 1) hx hb d_nlz_75 (by decide) ?_
            refine lv_iushr (v := zu (nI (v / 256)) (nI 1)) hx hb d_nlz_76 rfl ?_
            refine lv_topi (nm_r (show _ = nI ((v / 256) / 2) from pk_ushrN (by omega) _ 1 (by decide)) ?_)
            refine lv_isub hx hb d_nlz_77 ?_
            refine lv_topi (nm_r (show _ = nI (23 - ((v / 256) / 2)) from pk_sub (by omega)) ?_)
            exact W.iret (v := nI (23 - ((v / 256) / 2))) hx hb hr (fun t9 ht9 hW9 => ⟨⟨nI (23 - ((v / 256) / 2)), (), rfl, congrArg nI (by have z9 := z_leaf (s := 8) (q := 256) (by decide) a1 a2 (by omega) (by omega); omega), by rw [ht9]; exact hP, va_K.moved hW9.alike hK, hD⟩, hS.F ht9⟩) hS.2.2 d_nlz_78
          · replace c6 : ¬ (v / 256 < 4) := fun h9 => c6 ((nI_ltI (a := v / 256) (b := 4) (by omega) (by omega)).mpr h9)
            refine lv_iinc (v := nI 21) (lv' := [(1, .int (nI 21)), (0, .int (nI (v / 256)))]) hx hb d_nlz_66 hl (k := 1) rfl (by decide) (by decide) rfl (fun ls hl => ?_)
            refine lv_iload_n hx hb d_nlz_69 rfl (lv_at hl 1 rfl) ?_
            refine lv_iconst (v := nI 2) hx hb d_nlz_70 (by decide) ?_
            refine lv_iushr (v := zu (nI (v / 256)) (nI 2)) hx hb d_nlz_71 rfl ?_
            refine lv_topi (nm_r (show _ = nI ((v / 256) / 4) from pk_ushrN (by omega) _ 2 (by decide)) ?_)
            refine lv_istore_n (lv' := [(0, .int (nI ((v / 256) / 4))), (1, .int (nI 21))]) hx hb d_nlz_72 rfl hl (by decide) rfl (fun ls hl => ?_)
            refine lv_iload_n hx hb d_nlz_73 rfl (lv_at hl 1 rfl) ?_
            refine lv_iload_n hx hb d_nlz_74 rfl (lv_at hl 0 rfl) ?_
            refine lv_iconst (v := nI 1) hx hb d_nlz_75 (by decide) ?_
            refine lv_iushr (v := zu (nI ((v / 256) / 4)) (nI 1)) hx hb d_nlz_76 rfl ?_
            refine lv_topi (nm_r (show _ = nI (((v / 256) / 4) / 2) from pk_ushrN (by omega) _ 1 (by decide)) ?_)
            refine lv_isub hx hb d_nlz_77 ?_
            refine lv_topi (nm_r (show _ = nI (21 - (((v / 256) / 4) / 2)) from pk_sub (by omega)) ?_)
            exact W.iret (v := nI (21 - (((v / 256) / 4) / 2))) hx hb hr (fun t9 ht9 hW9 => ⟨⟨nI (21 - (((v / 256) / 4) / 2)), (), rfl, congrArg nI (by have z9 := z_leaf (s := 10) (q := 1024) (by decide) a1 a2 (by omega) (by omega); omega), by rw [ht9]; exact hP, va_K.moved hW9.alike hK, hD⟩, hS.F ht9⟩) hS.2.2 d_nlz_78
        · replace c5 : ¬ (v / 256 < 16) := fun h9 => c5 ((nI_ltI (a := v / 256) (b := 16) (by omega) (by omega)).mpr h9)
          refine lv_iinc (v := nI 19) (lv' := [(1, .int (nI 19)), (0, .int (nI (v / 256)))]) hx hb d_nlz_54 hl (k := 1) rfl (by decide) (by decide) rfl (fun ls hl => ?_)
          refine lv_iload_n hx hb d_nlz_57 rfl (lv_at hl 1 rfl) ?_
          refine lv_iconst (v := nI 4) hx hb d_nlz_58 (by decide) ?_
          refine lv_iushr (v := zu (nI (v / 256)) (nI 4)) hx hb d_nlz_59 rfl ?_
          refine lv_topi (nm_r (show _ = nI ((v / 256) / 16) from pk_ushrN (by omega) _ 4 (by decide)) ?_)
          refine lv_istore_n (lv' := [(0, .int (nI ((v / 256) / 16))), (1, .int (nI 19))]) hx hb d_nlz_60 rfl hl (by decide) rfl (fun ls hl => ?_)
          refine lv_iload_n hx hb d_nlz_61 rfl (lv_at hl 0 rfl) ?_
          refine lv_iconst (v := nI 4) hx hb d_nlz_62 (by decide) ?_
          refine lv_icmp_lt (tgt := 73) hx hb d_nlz_63 (by decide) (fun c6 => ?_) (fun c6 => ?_)
          · replace c6 : (v / 256) / 16 < 4 := (nI_ltI (a := (v / 256) / 16) (b := 4) (by omega) (by omega)).mp c6
            refine lv_iload_n hx hb d_nlz_73 rfl (lv_at hl 1 rfl) ?_
            refine lv_iload_n hx hb d_nlz_74 rfl (lv_at hl 0 rfl) ?_
            refine lv_iconst (v := nI 1) hx hb d_nlz_75 (by decide) ?_
            refine lv_iushr (v := zu (nI ((v / 256) / 16)) (nI 1)) hx hb d_nlz_76 rfl ?_
            refine lv_topi (nm_r (show _ = nI (((v / 256) / 16) / 2) from pk_ushrN (by omega) _ 1 (by decide)) ?_)
            refine lv_isub hx hb d_nlz_77 ?_
            refine lv_topi (nm_r (show _ = nI (19 - (((v / 256) / 16) / 2)) from pk_sub (by omega)) ?_)
            exact W.iret (v := nI (19 - (((v / 256) / 16) / 2))) hx hb hr (fun t9 ht9 hW9 => ⟨⟨nI (19 - (((v / 256) / 16) / 2)), (), rfl, congrArg nI (by have z9 := z_leaf (s := 12) (q := 4096) (by decide) a1 a2 (by omega) (by omega); omega), by rw [ht9]; exact hP, va_K.moved hW9.alike hK, hD⟩, hS.F ht9⟩) hS.2.2 d_nlz_78
          · replace c6 : ¬ ((v / 256) / 16 < 4) := fun h9 => c6 ((nI_ltI (a := (v / 256) / 16) (b := 4) (by omega) (by omega)).mpr h9)
            refine lv_iinc (v := nI 17) (lv' := [(1, .int (nI 17)), (0, .int (nI ((v / 256) / 16)))]) hx hb d_nlz_66 hl (k := 1) rfl (by decide) (by decide) rfl (fun ls hl => ?_)
            refine lv_iload_n hx hb d_nlz_69 rfl (lv_at hl 1 rfl) ?_
            refine lv_iconst (v := nI 2) hx hb d_nlz_70 (by decide) ?_
            refine lv_iushr (v := zu (nI ((v / 256) / 16)) (nI 2)) hx hb d_nlz_71 rfl ?_
            refine lv_topi (nm_r (show _ = nI (((v / 256) / 16) / 4) from pk_ushrN (by omega) _ 2 (by decide)) ?_)
            refine lv_istore_n (lv' := [(0, .int (nI (((v / 256) / 16) / 4))), (1, .int (nI 17))]) hx hb d_nlz_72 rfl hl (by decide) rfl (fun ls hl => ?_)
            refine lv_iload_n hx hb d_nlz_73 rfl (lv_at hl 1 rfl) ?_
            refine lv_iload_n hx hb d_nlz_74 rfl (lv_at hl 0 rfl) ?_
            refine lv_iconst (v := nI 1) hx hb d_nlz_75 (by decide) ?_
            refine lv_iushr (v := zu (nI (((v / 256) / 16) / 4)) (nI 1)) hx hb d_nlz_76 rfl ?_
            refine lv_topi (nm_r (show _ = nI ((((v / 256) / 16) / 4) / 2) from pk_ushrN (by omega) _ 1 (by decide)) ?_)
            refine lv_isub hx hb d_nlz_77 ?_
            refine lv_topi (nm_r (show _ = nI (17 - ((((v / 256) / 16) / 4) / 2)) from pk_sub (by omega)) ?_)
            exact W.iret (v := nI (17 - ((((v / 256) / 16) / 4) / 2))) hx hb hr (fun t9 ht9 hW9 => ⟨⟨nI (17 - ((((v / 256) / 16) / 4) / 2)), (), rfl, congrArg nI (by have z9 := z_leaf (s := 14) (q := 16384) (by decide) a1 a2 (by omega) (by omega); omega), by rw [ht9]; exact hP, va_K.moved hW9.alike hK, hD⟩, hS.F ht9⟩) hS.2.2 d_nlz_78
    · replace c3 : ¬ (v < 65536) := fun h9 => c3 ((nI_ltI (a := v) (b := 65536) (by omega) (by omega)).mpr h9)
      refine lv_iinc (v := nI 15) (lv' := [(1, .int (nI 15)), (0, .int (nI v))]) hx hb d_nlz_25 hl (k := 0) rfl (by decide) (by decide) rfl (fun ls hl => ?_)
      refine lv_iload_n hx hb d_nlz_28 rfl (lv_at hl 1 rfl) ?_
      refine lv_bipush (v := nI 16) hx hb d_nlz_29 (by decide) ?_
      refine lv_iushr (v := zu (nI v) (nI 16)) hx hb d_nlz_31 rfl ?_
      refine lv_topi (nm_r (show _ = nI (v / 65536) from pk_ushrN (by omega) _ 16 (by decide)) ?_)
      refine lv_istore_n (lv' := [(0, .int (nI (v / 65536))), (1, .int (nI 15))]) hx hb d_nlz_32 rfl hl (by decide) rfl (fun ls hl => ?_)
      refine lv_iload_n hx hb d_nlz_33 rfl (lv_at hl 0 rfl) ?_
      refine lv_sipush (v := nI 256) hx hb d_nlz_34 (by decide) ?_
      refine lv_icmp_lt (tgt := 48) hx hb d_nlz_37 (by decide) (fun c4 => ?_) (fun c4 => ?_)
      · replace c4 : v / 65536 < 256 := (nI_ltI (a := v / 65536) (b := 256) (by omega) (by omega)).mp c4
        refine lv_iload_n hx hb d_nlz_48 rfl (lv_at hl 0 rfl) ?_
        refine lv_bipush (v := nI 16) hx hb d_nlz_49 (by decide) ?_
        refine lv_icmp_lt (tgt := 61) hx hb d_nlz_51 (by decide) (fun c5 => ?_) (fun c5 => ?_)
        · replace c5 : v / 65536 < 16 := (nI_ltI (a := v / 65536) (b := 16) (by omega) (by omega)).mp c5
          refine lv_iload_n hx hb d_nlz_61 rfl (lv_at hl 0 rfl) ?_
          refine lv_iconst (v := nI 4) hx hb d_nlz_62 (by decide) ?_
          refine lv_icmp_lt (tgt := 73) hx hb d_nlz_63 (by decide) (fun c6 => ?_) (fun c6 => ?_)
          · replace c6 : v / 65536 < 4 := (nI_ltI (a := v / 65536) (b := 4) (by omega) (by omega)).mp c6
            refine lv_iload_n hx hb d_nlz_73 rfl (lv_at hl 1 rfl) ?_
            refine lv_iload_n hx hb d_nlz_74 rfl (lv_at hl 0 rfl) ?_
            refine lv_iconst (v := nI 1) hx hb d_nlz_75 (by decide) ?_
            refine lv_iushr (v := zu (nI (v / 65536)) (nI 1)) hx hb d_nlz_76 rfl ?_
            refine lv_topi (nm_r (show _ = nI ((v / 65536) / 2) from pk_ushrN (by omega) _ 1 (by decide)) ?_)
            refine lv_isub hx hb d_nlz_77 ?_
            refine lv_topi (nm_r (show _ = nI (15 - ((v / 65536) / 2)) from pk_sub (by omega)) ?_)
            exact W.iret (v := nI (15 - ((v / 65536) / 2))) hx hb hr (fun t9 ht9 hW9 => ⟨⟨nI (15 - ((v / 65536) / 2)), (), rfl, congrArg nI (by have z9 := z_leaf (s := 16) (q := 65536) (by decide) a1 a2 (by omega) (by omega); omega), by rw [ht9]; exact hP, va_K.moved hW9.alike hK, hD⟩, hS.F ht9⟩) hS.2.2 d_nlz_78
          · replace c6 : ¬ (v / 65536 < 4) := fun h9 => c6 ((nI_ltI (a := v / 65536) (b := 4) (by omega) (by omega)).mpr h9)
            refine lv_iinc (v := nI 13) (lv' := [(1, .int (nI 13)), (0, .int (nI (v / 65536)))]) hx hb d_nlz_66 hl (k := 1) rfl (by decide) (by decide) rfl (fun ls hl => ?_)
            refine lv_iload_n hx hb d_nlz_69 rfl (lv_at hl 1 rfl) ?_
            refine lv_iconst (v := nI 2) hx hb d_nlz_70 (by decide) ?_
            refine lv_iushr (v := zu (nI (v / 65536)) (nI 2)) hx hb d_nlz_71 rfl ?_
            refine lv_topi (nm_r (show _ = nI ((v / 65536) / 4) from pk_ushrN (by omega) _ 2 (by decide)) ?_)
            refine lv_istore_n (lv' := [(0, .int (nI ((v / 65536) / 4))), (1, .int (nI 13))]) hx hb d_nlz_72 rfl hl (by decide) rfl (fun ls hl => ?_)
            refine lv_iload_n hx hb d_nlz_73 rfl (lv_at hl 1 rfl) ?_
            refine lv_iload_n hx hb d_nlz_74 rfl (lv_at hl 0 rfl) ?_
            refine lv_iconst (v := nI 1) hx hb d_nlz_75 (by decide) ?_
            refine lv_iushr (v := zu (nI ((v / 65536) / 4)) (nI 1)) hx hb d_nlz_76 rfl ?_
            refine lv_topi (nm_r (show _ = nI (((v / 65536) / 4) / 2) from pk_ushrN (by omega) _ 1 (by decide)) ?_)
            refine lv_isub hx hb d_nlz_77 ?_
            refine lv_topi (nm_r (show _ = nI (13 - (((v / 65536) / 4) / 2)) from pk_sub (by omega)) ?_)
            exact W.iret (v := nI (13 - (((v / 65536) / 4) / 2))) hx hb hr (fun t9 ht9 hW9 => ⟨⟨nI (13 - (((v / 65536) / 4) / 2)), (), rfl, congrArg nI (by have z9 := z_leaf (s := 18) (q := 262144) (by decide) a1 a2 (by omega) (by omega); omega), by rw [ht9]; exact hP, va_K.moved hW9.alike hK, hD⟩, hS.F ht9⟩) hS.2.2 d_nlz_78
        · replace c5 : ¬ (v / 65536 < 16) := fun h9 => c5 ((nI_ltI (a := v / 65536) (b := 16) (by omega) (by omega)).mpr h9)
          refine lv_iinc (v := nI 11) (lv' := [(1, .int (nI 11)), (0, .int (nI (v / 65536)))]) hx hb d_nlz_54 hl (k := 1) rfl (by decide) (by decide) rfl (fun ls hl => ?_)
          refine lv_iload_n hx hb d_nlz_57 rfl (lv_at hl 1 rfl) ?_
          refine lv_iconst (v := nI 4) hx hb d_nlz_58 (by decide) ?_
          refine lv_iushr (v := zu (nI (v / 65536)) (nI 4)) hx hb d_nlz_59 rfl ?_
          refine lv_topi (nm_r (show _ = nI ((v / 65536) / 16) from pk_ushrN (by omega) _ 4 (by decide)) ?_)
          refine lv_istore_n (lv' := [(0, .int (nI ((v / 65536) / 16))), (1, .int (nI 11))]) hx hb d_nlz_60 rfl hl (by decide) rfl (fun ls hl => ?_)
          refine lv_iload_n hx hb d_nlz_61 rfl (lv_at hl 0 rfl) ?_
          refine lv_iconst (v := nI 4) hx hb d_nlz_62 (by decide) ?_
          refine lv_icmp_lt (tgt := 73) hx hb d_nlz_63 (by decide) (fun c6 => ?_) (fun c6 => ?_)
          · replace c6 : (v / 65536) / 16 < 4 := (nI_ltI (a := (v / 65536) / 16) (b := 4) (by omega) (by omega)).mp c6
            refine lv_iload_n hx hb d_nlz_73 rfl (lv_at hl 1 rfl) ?_
            refine lv_iload_n hx hb d_nlz_74 rfl (lv_at hl 0 rfl) ?_
            refine lv_iconst (v := nI 1) hx hb d_nlz_75 (by decide) ?_
            refine lv_iushr (v := zu (nI ((v / 65536) / 16)) (nI 1)) hx hb d_nlz_76 rfl ?_
            refine lv_topi (nm_r (show _ = nI (((v / 65536) / 16) / 2) from pk_ushrN (by omega) _ 1 (by decide)) ?_)
            refine lv_isub hx hb d_nlz_77 ?_
            refine lv_topi (nm_r (show _ = nI (11 - (((v / 65536) / 16) / 2)) from pk_sub (by omega)) ?_)
            exact W.iret (v := nI (11 - (((v / 65536) / 16) / 2))) hx hb hr (fun t9 ht9 hW9 => ⟨⟨nI (11 - (((v / 65536) / 16) / 2)), (), rfl, congrArg nI (by have z9 := z_leaf (s := 20) (q := 1048576) (by decide) a1 a2 (by omega) (by omega); omega), by rw [ht9]; exact hP, va_K.moved hW9.alike hK, hD⟩, hS.F ht9⟩) hS.2.2 d_nlz_78
          · replace c6 : ¬ ((v / 65536) / 16 < 4) := fun h9 => c6 ((nI_ltI (a := (v / 65536) / 16) (b := 4) (by omega) (by omega)).mpr h9)
            refine lv_iinc (v := nI 9) (lv' := [(1, .int (nI 9)), (0, .int (nI ((v / 65536) / 16)))]) hx hb d_nlz_66 hl (k := 1) rfl (by decide) (by decide) rfl (fun ls hl => ?_)
            refine lv_iload_n hx hb d_nlz_69 rfl (lv_at hl 1 rfl) ?_
            refine lv_iconst (v := nI 2) hx hb d_nlz_70 (by decide) ?_
            refine lv_iushr (v := zu (nI ((v / 65536) / 16)) (nI 2)) hx hb d_nlz_71 rfl ?_
            refine lv_topi (nm_r (show _ = nI (((v / 65536) / 16) / 4) from pk_ushrN (by omega) _ 2 (by decide)) ?_)
            refine lv_istore_n (lv' := [(0, .int (nI (((v / 65536) / 16) / 4))), (1, .int (nI 9))]) hx hb d_nlz_72 rfl hl (by decide) rfl (fun ls hl => ?_)
            refine lv_iload_n hx hb d_nlz_73 rfl (lv_at hl 1 rfl) ?_
            refine lv_iload_n hx hb d_nlz_74 rfl (lv_at hl 0 rfl) ?_
            refine lv_iconst (v := nI 1) hx hb d_nlz_75 (by decide) ?_
            refine lv_iushr (v := zu (nI (((v / 65536) / 16) / 4)) (nI 1)) hx hb d_nlz_76 rfl ?_
            refine lv_topi (nm_r (show _ = nI ((((v / 65536) / 16) / 4) / 2) from pk_ushrN (by omega) _ 1 (by decide)) ?_)
            refine lv_isub hx hb d_nlz_77 ?_
            refine lv_topi (nm_r (show _ = nI (9 - ((((v / 65536) / 16) / 4) / 2)) from pk_sub (by omega)) ?_)
            exact W.iret (v := nI (9 - ((((v / 65536) / 16) / 4) / 2))) hx hb hr (fun t9 ht9 hW9 => ⟨⟨nI (9 - ((((v / 65536) / 16) / 4) / 2)), (), rfl, congrArg nI (by have z9 := z_leaf (s := 22) (q := 4194304) (by decide) a1 a2 (by omega) (by omega); omega), by rw [ht9]; exact hP, va_K.moved hW9.alike hK, hD⟩, hS.F ht9⟩) hS.2.2 d_nlz_78
      · replace c4 : ¬ (v / 65536 < 256) := fun h9 => c4 ((nI_ltI (a := v / 65536) (b := 256) (by omega) (by omega)).mpr h9)
        refine lv_iinc (v := nI 7) (lv' := [(1, .int (nI 7)), (0, .int (nI (v / 65536)))]) hx hb d_nlz_40 hl (k := 1) rfl (by decide) (by decide) rfl (fun ls hl => ?_)
        refine lv_iload_n hx hb d_nlz_43 rfl (lv_at hl 1 rfl) ?_
        refine lv_bipush (v := nI 8) hx hb d_nlz_44 (by decide) ?_
        refine lv_iushr (v := zu (nI (v / 65536)) (nI 8)) hx hb d_nlz_46 rfl ?_
        refine lv_topi (nm_r (show _ = nI ((v / 65536) / 256) from pk_ushrN (by omega) _ 8 (by decide)) ?_)
        refine lv_istore_n (lv' := [(0, .int (nI ((v / 65536) / 256))), (1, .int (nI 7))]) hx hb d_nlz_47 rfl hl (by decide) rfl (fun ls hl => ?_)
        refine lv_iload_n hx hb d_nlz_48 rfl (lv_at hl 0 rfl) ?_
        refine lv_bipush (v := nI 16) hx hb d_nlz_49 (by decide) ?_
        refine lv_icmp_lt (tgt := 61) hx hb d_nlz_51 (by decide) (fun c5 => ?_) (fun c5 => ?_)
        · replace c5 : (v / 65536) / 256 < 16 := (nI_ltI (a := (v / 65536) / 256) (b := 16) (by omega) (by omega)).mp c5
          refine lv_iload_n hx hb d_nlz_61 rfl (lv_at hl 0 rfl) ?_
          refine lv_iconst (v := nI 4) hx hb d_nlz_62 (by decide) ?_
          refine lv_icmp_lt (tgt := 73) hx hb d_nlz_63 (by decide) (fun c6 => ?_) (fun c6 => ?_)
          · replace c6 : (v / 65536) / 256 < 4 := (nI_ltI (a := (v / 65536) / 256) (b := 4) (by omega) (by omega)).mp c6
            refine lv_iload_n hx hb d_nlz_73 rfl (lv_at hl 1 rfl) ?_
            refine lv_iload_n hx hb d_nlz_74 rfl (lv_at hl 0 rfl) ?_
            refine lv_iconst (v := nI 1) hx hb d_nlz_75 (by decide) ?_
            refine lv_iushr (v := zu (nI ((v / 65536) / 256)) (nI 1)) hx hb d_nlz_76 rfl ?_
            refine lv_topi (nm_r (show _ = nI (((v / 65536) / 256) / 2) from pk_ushrN (by omega) _ 1 (by decide)) ?_)
            refine lv_isub hx hb d_nlz_77 ?_
            refine lv_topi (nm_r (show _ = nI (7 - (((v / 65536) / 256) / 2)) from pk_sub (by omega)) ?_)
            exact W.iret (v := nI (7 - (((v / 65536) / 256) / 2))) hx hb hr (fun t9 ht9 hW9 => ⟨⟨nI (7 - (((v / 65536) / 256) / 2)), (), rfl, congrArg nI (by have z9 := z_leaf (s := 24) (q := 16777216) (by decide) a1 a2 (by omega) (by omega); omega), by rw [ht9]; exact hP, va_K.moved hW9.alike hK, hD⟩, hS.F ht9⟩) hS.2.2 d_nlz_78
          · replace c6 : ¬ ((v / 65536) / 256 < 4) := fun h9 => c6 ((nI_ltI (a := (v / 65536) / 256) (b := 4) (by omega) (by omega)).mpr h9)
            refine lv_iinc (v := nI 5) (lv' := [(1, .int (nI 5)), (0, .int (nI ((v / 65536) / 256)))]) hx hb d_nlz_66 hl (k := 1) rfl (by decide) (by decide) rfl (fun ls hl => ?_)
            refine lv_iload_n hx hb d_nlz_69 rfl (lv_at hl 1 rfl) ?_
            refine lv_iconst (v := nI 2) hx hb d_nlz_70 (by decide) ?_
            refine lv_iushr (v := zu (nI ((v / 65536) / 256)) (nI 2)) hx hb d_nlz_71 rfl ?_
            refine lv_topi (nm_r (show _ = nI (((v / 65536) / 256) / 4) from pk_ushrN (by omega) _ 2 (by decide)) ?_)
            refine lv_istore_n (lv' := [(0, .int (nI (((v / 65536) / 256) / 4))), (1, .int (nI 5))]) hx hb d_nlz_72 rfl hl (by decide) rfl (fun ls hl => ?_)
            refine lv_iload_n hx hb d_nlz_73 rfl (lv_at hl 1 rfl) ?_
            refine lv_iload_n hx hb d_nlz_74 rfl (lv_at hl 0 rfl) ?_
            refine lv_iconst (v := nI 1) hx hb d_nlz_75 (by decide) ?_
            refine lv_iushr (v := zu (nI (((v / 65536) / 256) / 4)) (nI 1)) hx hb d_nlz_76 rfl ?_
            refine lv_topi (nm_r (show _ = nI ((((v / 65536) / 256) / 4) / 2) from pk_ushrN (by omega) _ 1 (by decide)) ?_)
            refine lv_isub hx hb d_nlz_77 ?_
            refine lv_topi (nm_r (show _ = nI (5 - ((((v / 65536) / 256) / 4) / 2)) from pk_sub (by omega)) ?_)
            exact W.iret (v := nI (5 - ((((v / 65536) / 256) / 4) / 2))) hx hb hr (fun t9 ht9 hW9 => ⟨⟨nI (5 - ((((v / 65536) / 256) / 4) / 2)), (), rfl, congrArg nI (by have z9 := z_leaf (s := 26) (q := 67108864) (by decide) a1 a2 (by omega) (by omega); omega), by rw [ht9]; exact hP, va_K.moved hW9.alike hK, hD⟩, hS.F ht9⟩) hS.2.2 d_nlz_78
        · replace c5 : ¬ ((v / 65536) / 256 < 16) := fun h9 => c5 ((nI_ltI (a := (v / 65536) / 256) (b := 16) (by omega) (by omega)).mpr h9)
          refine lv_iinc (v := nI 3) (lv' := [(1, .int (nI 3)), (0, .int (nI ((v / 65536) / 256)))]) hx hb d_nlz_54 hl (k := 1) rfl (by decide) (by decide) rfl (fun ls hl => ?_)
          refine lv_iload_n hx hb d_nlz_57 rfl (lv_at hl 1 rfl) ?_
          refine lv_iconst (v := nI 4) hx hb d_nlz_58 (by decide) ?_
          refine lv_iushr (v := zu (nI ((v / 65536) / 256)) (nI 4)) hx hb d_nlz_59 rfl ?_
          refine lv_topi (nm_r (show _ = nI (((v / 65536) / 256) / 16) from pk_ushrN (by omega) _ 4 (by decide)) ?_)
          refine lv_istore_n (lv' := [(0, .int (nI (((v / 65536) / 256) / 16))), (1, .int (nI 3))]) hx hb d_nlz_60 rfl hl (by decide) rfl (fun ls hl => ?_)
          refine lv_iload_n hx hb d_nlz_61 rfl (lv_at hl 0 rfl) ?_
          refine lv_iconst (v := nI 4) hx hb d_nlz_62 (by decide) ?_
          refine lv_icmp_lt (tgt := 73) hx hb d_nlz_63 (by decide) (fun c6 => ?_) (fun c6 => ?_)
          · replace c6 : ((v / 65536) / 256) / 16 < 4 := (nI_ltI (a := ((v / 65536) / 256) / 16) (b := 4) (by omega) (by omega)).mp c6
            refine lv_iload_n hx hb d_nlz_73 rfl (lv_at hl 1 rfl) ?_
            refine lv_iload_n hx hb d_nlz_74 rfl (lv_at hl 0 rfl) ?_
            refine lv_iconst (v := nI 1) hx hb d_nlz_75 (by decide) ?_
            refine lv_iushr (v := zu (nI (((v / 65536) / 256) / 16)) (nI 1)) hx hb d_nlz_76 rfl ?_
            refine lv_topi (nm_r (show _ = nI ((((v / 65536) / 256) / 16) / 2) from pk_ushrN (by omega) _ 1 (by decide)) ?_)
            refine lv_isub hx hb d_nlz_77 ?_
            refine lv_topi (nm_r (show _ = nI (3 - ((((v / 65536) / 256) / 16) / 2)) from pk_sub (by omega)) ?_)
            exact W.iret (v := nI (3 - ((((v / 65536) / 256) / 16) / 2))) hx hb hr (fun t9 ht9 hW9 => ⟨⟨nI (3 - ((((v / 65536) / 256) / 16) / 2)), (), rfl, congrArg nI (by have z9 := z_leaf (s := 28) (q := 268435456) (by decide) a1 a2 (by omega) (by omega); omega), by rw [ht9]; exact hP, va_K.moved hW9.alike hK, hD⟩, hS.F ht9⟩) hS.2.2 d_nlz_78
          · replace c6 : ¬ (((v / 65536) / 256) / 16 < 4) := fun h9 => c6 ((nI_ltI (a := ((v / 65536) / 256) / 16) (b := 4) (by omega) (by omega)).mpr h9)
            refine lv_iinc (v := nI 1) (lv' := [(1, .int (nI 1)), (0, .int (nI (((v / 65536) / 256) / 16)))]) hx hb d_nlz_66 hl (k := 1) rfl (by decide) (by decide) rfl (fun ls hl => ?_)
            refine lv_iload_n hx hb d_nlz_69 rfl (lv_at hl 1 rfl) ?_
            refine lv_iconst (v := nI 2) hx hb d_nlz_70 (by decide) ?_
            refine lv_iushr (v := zu (nI (((v / 65536) / 256) / 16)) (nI 2)) hx hb d_nlz_71 rfl ?_
            refine lv_topi (nm_r (show _ = nI ((((v / 65536) / 256) / 16) / 4) from pk_ushrN (by omega) _ 2 (by decide)) ?_)
            refine lv_istore_n (lv' := [(0, .int (nI ((((v / 65536) / 256) / 16) / 4))), (1, .int (nI 1))]) hx hb d_nlz_72 rfl hl (by decide) rfl (fun ls hl => ?_)
            refine lv_iload_n hx hb d_nlz_73 rfl (lv_at hl 1 rfl) ?_
            refine lv_iload_n hx hb d_nlz_74 rfl (lv_at hl 0 rfl) ?_
            refine lv_iconst (v := nI 1) hx hb d_nlz_75 (by decide) ?_
            refine lv_iushr (v := zu (nI ((((v / 65536) / 256) / 16) / 4)) (nI 1)) hx hb d_nlz_76 rfl ?_
            refine lv_topi (nm_r (show _ = nI (((((v / 65536) / 256) / 16) / 4) / 2) from pk_ushrN (by omega) _ 1 (by decide)) ?_)
            refine lv_isub hx hb d_nlz_77 ?_
            refine lv_topi (nm_r (show _ = nI (1 - (((((v / 65536) / 256) / 16) / 4) / 2)) from pk_sub (by omega)) ?_)
            exact W.iret (v := nI (1 - (((((v / 65536) / 256) / 16) / 4) / 2))) hx hb hr (fun t9 ht9 hW9 => ⟨⟨nI (1 - (((((v / 65536) / 256) / 16) / 4) / 2)), (), rfl, congrArg nI (by have z9 := z_leaf (s := 30) (q := 1073741824) (by decide) a1 a2 (by omega) (by omega); omega), by rw [ht9]; exact hP, va_K.moved hW9.alike hK, hD⟩, hS.F ht9⟩) hS.2.2 d_nlz_78
  · refine lv_iload_n hx hb d_nlz_4 rfl (lv_at hl 0 rfl) ?_
    refine lv_if_ne (tgt := 13) hx hb d_nlz_5 (by decide) (fun c2 => ?_) (fun c2 => ?_)
    · refine lv_iconst (v := (0 : Int32)) hx hb d_nlz_13 (by decide) ?_
      exact W.iret (v := (0 : Int32)) hx hb hr (fun t9 ht9 hW9 => ⟨⟨(0 : Int32), (), rfl, z_nlz0 ht ex a1 a2 c1, by rw [ht9]; exact hP, va_K.moved hW9.alike hK, hD⟩, hS.F ht9⟩) hS.2.2 d_nlz_14
    · rw [c2] at g1
      rw [b_0] at g1
      cases g1
set_option maxHeartbeats 4000000 in
set_option maxRecDepth 100000 in
/-- Integer.numberOfTrailingZeros(x), t the lowest set bit -/
theorem k_ntz (l : Launch) (dC : Nat → ClassId) (dI : Nat → Nat → Nat)  (sz : Nat) (x : Int32) (t : Nat) (ht : t < 32) (g1 : bt x t = true) (g2 : ∀ k, k < t → bt x k = false) : Met l y_ntz ws_ntz ({ frames := 0, cells := 0, slots := 0, locals := 0 }) (va_Pc [.int x] (cc_P (dC, dI) vwCl ([] : va_W) [] sz)) (va_Qi (S := Unit) (fun (r : Int32) (_ : Unit) => r = nI t) (fun u t => cc_B (dC, dI) vwCl [] (va_A ([] : va_W) sz) ((fun _ : Unit => ([] : va_W)) u) t) (va_A ([] : va_W) sz)) 0 0 (va_A ([] : va_W) sz) := by
  refine Met.ofW (cc := c_ntz) (maxL := 2) (ret := (some .int)) (by decide) rfl ?_
  intro p e s m args below meth c s₁ B hml hv
  obtain ⟨rfl, hsz, hP, hK, hD0⟩ := hv
  have hx := B.exec
  have hb := B.bytes
  have hr := B.returns
  have hts : ∀ w ∈ zAll, w.before _ s = true := fun w h => atoms_spec (ws := ws_ntz) B.pre w (List.mem_cons_of_mem _ h)
  have hown : s.vm.findClass RI = some m.cls := findClass_of_methodNamed B.named
  have hlocks := B.notSynchronized
  subst hsz
  have hD := hD0.self (sz := s.heap.size)
  generalize hAe : va_A ([] : va_W) s.heap.size = A at hD ⊢
  have hA : ∀ q : Nat, s.heap.size ≤ q → A q := fun q h => by rw [← hAe]; exact Or.inr h
  have hS : va_S A s.heap s.heap [] := va_S.rf
  replace hP : va_P (dC, dI) vwCl [] s.heap := hP
  replace hD : va_D A [] := hD
  have hl := lv_entry ([.int x]) (n := 2) (Nat.le_of_ble_eq_true rfl)
  rw [lg_entry_eq]
  generalize (lg_sl ([.int x]) ++ List.replicate (2 - (lg_sl ([.int x])).length) Slot.unset).toArray = ls at hl ⊢
  replace hl : lv_has ls 2 [(0, .int x)] := hl
  refine lv_iload_n hx hb d_ntz_0 rfl (lv_at hl 0 rfl) ?_
  refine lv_iconst (v := (-1 : Int32)) hx hb d_ntz_1 (by decide) ?_
  refine lv_ixor hx hb d_ntz_2 ?_
  refine lv_iload_n hx hb d_ntz_3 rfl (lv_at hl 0 rfl) ?_
  refine lv_iconst (v := (1 : Int32)) hx hb d_ntz_4 (by decide) ?_
  refine lv_isub hx hb d_ntz_5 ?_
  refine lv_iand hx hb d_ntz_6 ?_
  obtain ⟨v, ev⟩ : ∃ v : Nat, v = 2 ^ t - 1 := ⟨_, rfl⟩
  refine lv_topi (nm_r (show _ = nI v from by rw [ev]; exact z_mask ht g1 g2) ?_)
  have hv : v < 2147483648 := z_lt32 ht ev
  refine lv_istore_n (lv' := [(0, .int (nI v))]) hx hb d_ntz_7 rfl hl (by decide) rfl (fun ls hl => ?_)
  refine lv_iload_n hx hb d_ntz_8 rfl (lv_at hl 0 rfl) ?_
  refine lv_if_gt (tgt := 17) hx hb d_ntz_9 (by decide) (fun c1 => ?_) (fun c1 => ?_)
  · replace c1 : 0 < v := (nI_ltI (a := 0) (b := v) (by omega) (by omega)).mp c1
    refine lv_iconst (v := nI 1) hx hb d_ntz_17 (by decide) ?_
    refine lv_istore_n (lv' := [(1, .int (nI 1)), (0, .int (nI v))]) hx hb d_ntz_18 rfl hl (by decide) rfl (fun ls hl => ?_)
    refine lv_iload_n hx hb d_ntz_19 rfl (lv_at hl 1 rfl) ?_
    refine lv_ldcw (v := 65536) hx hb hown (hts _ wk_264) d_ntz_20 ?_
    refine lv_topi (nm_r (show _ = nI 65536 from by decide) ?_)
    refine lv_icmp_le (tgt := 34) hx hb d_ntz_23 (by decide) (fun c2 => ?_) (fun c2 => ?_)
    · replace c2 : v ≤ 65536 := (nI_leI (a := v) (b := 65536) (by omega) (by omega)).mp c2
      refine lv_iload_n hx hb d_ntz_34 rfl (lv_at hl 1 rfl) ?_
      refine lv_sipush (v := nI 256) hx hb d_ntz_35 (by decide) ?_
      refine lv_icmp_le (tgt := 49) hx hb d_ntz_38 (by decide) (fun c3 => ?_) (fun c3 => ?_)
      · replace c3 : v ≤ 256 := (nI_leI (a := v) (b := 256) (by omega) (by omega)).mp c3
        refine lv_iload_n hx hb d_ntz_49 rfl (lv_at hl 1 rfl) ?_
        refine lv_bipush (v := nI 16) hx hb d_ntz_50 (by decide) ?_
        refine lv_icmp_le (tgt := 62) hx hb d_ntz_52 (by decide) (fun c4 => ?_) (fun c4 => ?_)
        · replace c4 : v ≤ 16 := (nI_leI (a := v) (b := 16) (by omega) (by omega)).mp c4
          refine lv_iload_n hx hb d_ntz_62 rfl (lv_at hl 1 rfl) ?_
          refine lv_iconst (v := nI 4) hx hb d_ntz_63 (by decide) ?_
          refine lv_icmp_le (tgt := 74) hx hb d_ntz_64 (by decide) (fun c5 => ?_) (fun c5 => ?_)
          · replace c5 : v ≤ 4 := (nI_leI (a := v) (b := 4) (by omega) (by omega)).mp c5
            refine lv_iload_n hx hb d_ntz_74 rfl (lv_at hl 0 rfl) ?_
            refine lv_iload_n hx hb d_ntz_75 rfl (lv_at hl 1 rfl) ?_
            refine lv_iconst (v := nI 1) hx hb d_ntz_76 (by decide) ?_
            refine lv_iushr (v := zu (nI v) (nI 1)) hx hb d_ntz_77 rfl ?_
            refine lv_topi (nm_r (show _ = nI (v / 2) from pk_ushrN (by omega) _ 1 (by decide)) ?_)
            refine lv_iadd hx hb d_ntz_78 ?_
            refine lv_topi (nm_r (show _ = nI (1 + (v / 2)) from nI_add _ _) ?_)
            exact W.iret (v := nI (1 + (v / 2))) hx hb hr (fun t9 ht9 hW9 => ⟨⟨nI (1 + (v / 2)), (), rfl, congrArg nI (by have z9 := z_leaf2 (s := 0) (q := 1) (by decide) ev (by omega) (by omega); omega), by rw [ht9]; exact hP, va_K.moved hW9.alike hK, hD⟩, hS.F ht9⟩) hS.2.2 d_ntz_79
          · replace c5 : ¬ (v ≤ 4) := fun h9 => c5 ((nI_leI (a := v) (b := 4) (by omega) (by omega)).mpr h9)
            refine lv_iinc (v := nI 3) (lv' := [(1, .int (nI 3)), (0, .int (nI v))]) hx hb d_ntz_67 hl (k := 0) rfl (by decide) (by decide) rfl (fun ls hl => ?_)
            refine lv_iload_n hx hb d_ntz_70 rfl (lv_at hl 1 rfl) ?_
            refine lv_iconst (v := nI 2) hx hb d_ntz_71 (by decide) ?_
            refine lv_iushr (v := zu (nI v) (nI 2)) hx hb d_ntz_72 rfl ?_
            refine lv_topi (nm_r (show _ = nI (v / 4) from pk_ushrN (by omega) _ 2 (by decide)) ?_)
            refine lv_istore_n (lv' := [(0, .int (nI (v / 4))), (1, .int (nI 3))]) hx hb d_ntz_73 rfl hl (by decide) rfl (fun ls hl => ?_)
            refine lv_iload_n hx hb d_ntz_74 rfl (lv_at hl 1 rfl) ?_
            refine lv_iload_n hx hb d_ntz_75 rfl (lv_at hl 0 rfl) ?_
            refine lv_iconst (v := nI 1) hx hb d_ntz_76 (by decide) ?_
            refine lv_iushr (v := zu (nI (v / 4)) (nI 1)) hx hb d_ntz_77 rfl ?_
            refine lv_topi (nm_r (show _ = nI ((v / 4) / 2) from pk_ushrN (by omega) _ 1 (by decide)) ?_)
            refine lv_iadd hx hb d_ntz_78 ?_
            refine lv_topi (nm_r (show _ = nI (3 + ((v / 4) / 2)) from nI_add _ _) ?_)
            exact W.iret (v := nI (3 + ((v / 4) / 2))) hx hb hr (fun t9 ht9 hW9 => ⟨⟨nI (3 + ((v / 4) / 2)), (), rfl, congrArg nI (by have z9 := z_leaf2 (s := 2) (q := 4) (by decide) ev (by omega) (by omega); omega), by rw [ht9]; exact hP, va_K.moved hW9.alike hK, hD⟩, hS.F ht9⟩) hS.2.2 d_ntz_79
        · replace c4 : ¬ (v ≤ 16) := fun h9 => c4 ((nI_leI (a := v) (b := 16) (by omega) (by omega)).mpr h9)
          refine lv_iinc (v := nI 5) (lv' := [(1, .int (nI 5)), (0, .int (nI v))]) hx hb d_ntz_55 hl (k := 0) rfl (by decide) (by decide) rfl (fun ls hl => ?_)
          refine lv_iload_n hx hb d_ntz_58 rfl (lv_at hl 1 rfl) ?_
          refine lv_iconst (v := nI 4) hx hb d_ntz_59 (by decide) ?_
          refine lv_iushr (v := zu (nI v) (nI 4)) hx hb d_ntz_60 rfl ?_
          refine lv_topi (nm_r (show _ = nI (v / 16) from pk_ushrN (by omega) _ 4 (by decide)) ?_)
          refine lv_istore_n (lv' := [(0, .int (nI (v / 16))), (1, .int (nI 5))]) hx hb d_ntz_61 rfl hl (by decide) rfl (fun ls hl => ?_)
          refine lv_iload_n hx hb d_ntz_62 rfl (lv_at hl 0 rfl) ?_
          refine lv_iconst (v := nI 4) hx hb d_ntz_63 (by decide) ?_
          refine lv_icmp_le (tgt := 74) hx hb d_ntz_64 (by decide) (fun c5 => ?_) (fun c5 => ?_)
          · replace c5 : v / 16 ≤ 4 := (nI_leI (a := v / 16) (b := 4) (by omega) (by omega)).mp c5
            refine lv_iload_n hx hb d_ntz_74 rfl (lv_at hl 1 rfl) ?_
            refine lv_iload_n hx hb d_ntz_75 rfl (lv_at hl 0 rfl) ?_
            refine lv_iconst (v := nI 1) hx hb d_ntz_76 (by decide) ?_
            refine lv_iushr (v := zu (nI (v / 16)) (nI 1)) hx hb d_ntz_77 rfl ?_
            refine lv_topi (nm_r (show _ = nI ((v / 16) / 2) from pk_ushrN (by omega) _ 1 (by decide)) ?_)
            refine lv_iadd hx hb d_ntz_78 ?_
            refine lv_topi (nm_r (show _ = nI (5 + ((v / 16) / 2)) from nI_add _ _) ?_)
            exact W.iret (v := nI (5 + ((v / 16) / 2))) hx hb hr (fun t9 ht9 hW9 => ⟨⟨nI (5 + ((v / 16) / 2)), (), rfl, congrArg nI (by have z9 := z_leaf2 (s := 4) (q := 16) (by decide) ev (by omega) (by omega); omega), by rw [ht9]; exact hP, va_K.moved hW9.alike hK, hD⟩, hS.F ht9⟩) hS.2.2 d_ntz_79
          · replace c5 : ¬ (v / 16 ≤ 4) := fun h9 => c5 ((nI_leI (a := v / 16) (b := 4) (by omega) (by omega)).mpr h9)
            refine lv_iinc (v := nI 7) (lv' := [(1, .int (nI 7)), (0, .int (nI (v / 16)))]) hx hb d_ntz_67 hl (k := 1) rfl (by decide) (by decide) rfl (fun ls hl => ?_)
            refine lv_iload_n hx hb d_ntz_70 rfl (lv_at hl 1 rfl) ?_
            refine lv_iconst (v := nI 2) hx hb d_ntz_71 (by decide) ?_
            refine lv_iushr (v := zu (nI (v / 16)) (nI 2)) hx hb d_ntz_72 rfl ?_
            refine lv_topi (nm_r (show _ = nI ((v / 16) / 4) from pk_ushrN (by omega) _ 2 (by decide)) ?_)
            refine lv_istore_n (lv' := [(0, .int (nI ((v / 16) / 4))), (1, .int (nI 7))]) hx hb d_ntz_73 rfl hl (by decide) rfl (fun ls hl => ?_)
            refine lv_iload_n hx hb d_ntz_74 rfl (lv_at hl 1 rfl) ?_
            refine lv_iload_n hx hb d_ntz_75 rfl (lv_at hl 0 rfl) ?_
            refine lv_iconst (v := nI 1) hx hb d_ntz_76 (by decide) ?_
            refine lv_iushr (v := zu (nI ((v / 16) / 4)) (nI 1)) hx hb d_ntz_77 rfl ?_
            refine lv_topi (nm_r (show _ = nI (((v / 16) / 4) / 2) from pk_ushrN (by omega) _ 1 (by decide)) ?_)
            refine lv_iadd hx hb d_ntz_78 ?_
            refine lv_topi (nm_r (show _ = nI (7 + (((v / 16) / 4) / 2)) from nI_add _ _) ?_)
            exact W.iret (v := nI (7 + (((v / 16) / 4) / 2))) hx hb hr (fun t9 ht9 hW9 => ⟨⟨nI (7 + (((v / 16) / 4) / 2)), (), rfl, congrArg nI (by have z9 := z_leaf2 (s := 6) (q := 64) (by decide) ev (by omega) (by omega); omega), by rw [ht9]; exact hP, va_K.moved hW9.alike hK, hD⟩, hS.F ht9⟩) hS.2.2 d_ntz_79
      · replace c3 : ¬ (v ≤ 256) := fun h9 => c3 ((nI_leI (a := v) (b := 256) (by omega) (by omega)).mpr h9)
        refine lv_iinc (v := nI 9) (lv' := [(1, .int (nI 9)), (0, .int (nI v))]) hx hb d_ntz_41 hl (k := 0) rfl (by decide) (by decide) rfl (fun ls hl => ?_)
        refine lv_iload_n hx hb d_ntz_44 rfl (lv_at hl 1 rfl) ?_
        refine lv_bipush (v := nI 8) hx hb d_ntz_45 (by decide) ?_
        refine lv_iushr (v := zu (nI v) (nI 8)) hx hb d_ntz_47 rfl ?_
        refine lv_topi (nm_r (show _ = nI (v / 256) from pk_ushrN (by omega) _ 8 (by decide)) ?_)
        refine lv_istore_n (lv' := [(0, .int (nI (v / 256))), (1, .int (nI 9))]) hx hb d_ntz_48 rfl hl (by decide) rfl (fun ls hl => ?_)
        refine lv_iload_n hx hb d_ntz_49 rfl (lv_at hl 0 rfl) ?_
        refine lv_bipush (v := nI 16) hx hb d_ntz_50 (by decide) ?_
        refine lv_icmp_le (tgt := 62) hx hb d_ntz_52 (by decide) (fun c4 => ?_) (fun c4 => ?_)
        · replace c4 : v / 256 ≤ 16 := (nI_leI (a := v / 256) (b := 16) (by omega) (by omega)).mp c4
          refine lv_iload_n hx hb d_ntz_62 rfl (lv_at hl 0 rfl) ?_
          refine lv_iconst (v := nI 4) hx hb d_ntz_63 (by decide) ?_
          refine lv_icmp_le (tgt := 74) hx hb d_ntz_64 (by decide) (fun c5 => ?_) (fun c5 => ?_)
          · replace c5 : v / 256 ≤ 4 := (nI_leI (a := v / 256) (b := 4) (by omega) (by omega)).mp c5
            refine lv_iload_n hx hb d_ntz_74 rfl (lv_at hl 1 rfl) ?_
            refine lv_iload_n hx hb d_ntz_75 rfl (lv_at hl 0 rfl) ?_
            refine lv_iconst (v := nI 1) hx hb d_ntz_76 (by decide) ?_
            refine lv_iushr (v := zu (nI (v / 256)) (nI 1)) hx hb d_ntz_77 rfl ?_
            refine lv_topi (nm_r (show _ = nI ((v / 256) / 2) from pk_ushrN (by omega) _ 1 (by decide)) ?_)
            refine lv_iadd hx hb d_ntz_78 ?_
            refine lv_topi (nm_r (show _ = nI (9 + ((v / 256) / 2)) from nI_add _ _) ?_)
            exact W.iret (v := nI (9 + ((v / 256) / 2))) hx hb hr (fun t9 ht9 hW9 => ⟨⟨nI (9 + ((v / 256) / 2)), (), rfl, congrArg nI (by have z9 := z_leaf2 (s := 8) (q := 256) (by decide) ev (by omega) (by omega); omega), by rw [ht9]; exact hP, va_K.moved hW9.alike hK, hD⟩, hS.F ht9⟩) hS.2.2 d_ntz_79
          · replace c5 : ¬ (v / 256 ≤ 4) := fun h9 => c5 ((nI_leI (a := v / 256) (b := 4) (by omega) (by omega)).mpr h9)
            refine lv_iinc (v := nI 11) (lv' := [(1, .int (nI 11)), (0, .int (nI (v / 256)))]) hx hb d_ntz_67 hl (k := 1) rfl (by decide) (by decide) rfl (fun ls hl => ?_)
            refine lv_iload_n hx hb d_ntz_70 rfl (lv_at hl 1 rfl) ?_
            refine lv_iconst (v := nI 2) hx hb d_ntz_71 (by decide) ?_
            refine lv_iushr (v := zu (nI (v / 256)) (nI 2)) hx hb d_ntz_72 rfl ?_
            refine lv_topi (nm_r (show _ = nI ((v / 256) / 4) from pk_ushrN (by omega) _ 2 (by decide)) ?_)
            refine lv_istore_n (lv' := [(0, .int (nI ((v / 256) / 4))), (1, .int (nI 11))]) hx hb d_ntz_73 rfl hl (by decide) rfl (fun ls hl => ?_)
            refine lv_iload_n hx hb d_ntz_74 rfl (lv_at hl 1 rfl) ?_
            refine lv_iload_n hx hb d_ntz_75 rfl (lv_at hl 0 rfl) ?_
            refine lv_iconst (v := nI 1) hx hb d_ntz_76 (by decide) ?_
            refine lv_iushr (v := zu (nI ((v / 256) / 4)) (nI 1)) hx hb d_ntz_77 rfl ?_
            refine lv_topi (nm_r (show _ = nI (((v / 256) / 4) / 2) from pk_ushrN (by omega) _ 1 (by decide)) ?_)
            refine lv_iadd hx hb d_ntz_78 ?_
            refine lv_topi (nm_r (show _ = nI (11 + (((v / 256) / 4) / 2)) from nI_add _ _) ?_)
            exact W.iret (v := nI (11 + (((v / 256) / 4) / 2))) hx hb hr (fun t9 ht9 hW9 => ⟨⟨nI (11 + (((v / 256) / 4) / 2)), (), rfl, congrArg nI (by have z9 := z_leaf2 (s := 10) (q := 1024) (by decide) ev (by omega) (by omega); omega), by rw [ht9]; exact hP, va_K.moved hW9.alike hK, hD⟩, hS.F ht9⟩) hS.2.2 d_ntz_79
        · replace c4 : ¬ (v / 256 ≤ 16) := fun h9 => c4 ((nI_leI (a := v / 256) (b := 16) (by omega) (by omega)).mpr h9)
          refine lv_iinc (v := nI 13) (lv' := [(1, .int (nI 13)), (0, .int (nI (v / 256)))]) hx hb d_ntz_55 hl (k := 1) rfl (by decide) (by decide) rfl (fun ls hl => ?_)
          refine lv_iload_n hx hb d_ntz_58 rfl (lv_at hl 1 rfl) ?_
          refine lv_iconst (v := nI 4) hx hb d_ntz_59 (by decide) ?_
          refine lv_iushr (v := zu (nI (v / 256)) (nI 4)) hx hb d_ntz_60 rfl ?_
          refine lv_topi (nm_r (show _ = nI ((v / 256) / 16) from pk_ushrN (by omega) _ 4 (by decide)) ?_)
          refine lv_istore_n (lv' := [(0, .int (nI ((v / 256) / 16))), (1, .int (nI 13))]) hx hb d_ntz_61 rfl hl (by decide) rfl (fun ls hl => ?_)
          refine lv_iload_n hx hb d_ntz_62 rfl (lv_at hl 0 rfl) ?_
          refine lv_iconst (v := nI 4) hx hb d_ntz_63 (by decide) ?_
          refine lv_icmp_le (tgt := 74) hx hb d_ntz_64 (by decide) (fun c5 => ?_) (fun c5 => ?_)
          · replace c5 : (v / 256) / 16 ≤ 4 := (nI_leI (a := (v / 256) / 16) (b := 4) (by omega) (by omega)).mp c5
            refine lv_iload_n hx hb d_ntz_74 rfl (lv_at hl 1 rfl) ?_
            refine lv_iload_n hx hb d_ntz_75 rfl (lv_at hl 0 rfl) ?_
            refine lv_iconst (v := nI 1) hx hb d_ntz_76 (by decide) ?_
            refine lv_iushr (v := zu (nI ((v / 256) / 16)) (nI 1)) hx hb d_ntz_77 rfl ?_
            refine lv_topi (nm_r (show _ = nI (((v / 256) / 16) / 2) from pk_ushrN (by omega) _ 1 (by decide)) ?_)
            refine lv_iadd hx hb d_ntz_78 ?_
            refine lv_topi (nm_r (show _ = nI (13 + (((v / 256) / 16) / 2)) from nI_add _ _) ?_)
            exact W.iret (v := nI (13 + (((v / 256) / 16) / 2))) hx hb hr (fun t9 ht9 hW9 => ⟨⟨nI (13 + (((v / 256) / 16) / 2)), (), rfl, congrArg nI (by have z9 := z_leaf2 (s := 12) (q := 4096) (by decide) ev (by omega) (by omega); omega), by rw [ht9]; exact hP, va_K.moved hW9.alike hK, hD⟩, hS.F ht9⟩) hS.2.2 d_ntz_79
          · replace c5 : ¬ ((v / 256) / 16 ≤ 4) := fun h9 => c5 ((nI_leI (a := (v / 256) / 16) (b := 4) (by omega) (by omega)).mpr h9)
            refine lv_iinc (v := nI 15) (lv' := [(1, .int (nI 15)), (0, .int (nI ((v / 256) / 16)))]) hx hb d_ntz_67 hl (k := 1) rfl (by decide) (by decide) rfl (fun ls hl => ?_)
            refine lv_iload_n hx hb d_ntz_70 rfl (lv_at hl 1 rfl) ?_
            refine lv_iconst (v := nI 2) hx hb d_ntz_71 (by decide) ?_
            refine lv_iushr (v := zu (nI ((v / 256) / 16)) (nI 2)) hx hb d_ntz_72 rfl ?_
            refine lv_topi (nm_r (show _ = nI (((v / 256) / 16) / 4) from pk_ushrN (by omega) _ 2 (by decide)) ?_)
            refine lv_istore_n (lv' := [(0, .int (nI (((v / 256) / 16) / 4))), (1, .int (nI 15))]) hx hb d_ntz_73 rfl hl (by decide) rfl (fun ls hl => ?_)
            refine lv_iload_n hx hb d_ntz_74 rfl (lv_at hl 1 rfl) ?_
            refine lv_iload_n hx hb d_ntz_75 rfl (lv_at hl 0 rfl) ?_
            refine lv_iconst (v := nI 1) hx hb d_ntz_76 (by decide) ?_
            refine lv_iushr (v := zu (nI (((v / 256) / 16) / 4)) (nI 1)) hx hb d_ntz_77 rfl ?_
            refine lv_topi (nm_r (show _ = nI ((((v / 256) / 16) / 4) / 2) from pk_ushrN (by omega) _ 1 (by decide)) ?_)
            refine lv_iadd hx hb d_ntz_78 ?_
            refine lv_topi (nm_r (show _ = nI (15 + ((((v / 256) / 16) / 4) / 2)) from nI_add _ _) ?_)
            exact W.iret (v := nI (15 + ((((v / 256) / 16) / 4) / 2))) hx hb hr (fun t9 ht9 hW9 => ⟨⟨nI (15 + ((((v / 256) / 16) / 4) / 2)), (), rfl, congrArg nI (by have z9 := z_leaf2 (s := 14) (q := 16384) (by decide) ev (by omega) (by omega); omega), by rw [ht9]; exact hP, va_K.moved hW9.alike hK, hD⟩, hS.F ht9⟩) hS.2.2 d_ntz_79
    · replace c2 : ¬ (v ≤ 65536) := fun h9 => c2 ((nI_leI (a := v) (b := 65536) (by omega) (by omega)).mpr h9)
      refine lv_iinc (v := nI 17) (lv' := [(1, .int (nI 17)), (0, .int (nI v))]) hx hb d_ntz_26 hl (k := 0) rfl (by decide) (by decide) rfl (fun ls hl => ?_)
      refine lv_iload_n hx hb d_ntz_29 rfl (lv_at hl 1 rfl) ?_
      refine lv_bipush (v := nI 16) hx hb d_ntz_30 (by decide) ?_
      refine lv_iushr (v := zu (nI v) (nI 16)) hx hb d_ntz_32 rfl ?_
      refine lv_topi (nm_r (show _ = nI (v / 65536) from pk_ushrN (by omega) _ 16 (by decide)) ?_)
      refine lv_istore_n (lv' := [(0, .int (nI (v / 65536))), (1, .int (nI 17))]) hx hb d_ntz_33 rfl hl (by decide) rfl (fun ls hl => ?_)
      refine lv_iload_n hx hb d_ntz_34 rfl (lv_at hl 0 rfl) ?_
      refine lv_sipush (v := nI 256) hx hb d_ntz_35 (by decide) ?_
      refine lv_icmp_le (tgt := 49) hx hb d_ntz_38 (by decide) (fun c3 => ?_) (fun c3 => ?_)
      · replace c3 : v / 65536 ≤ 256 := (nI_leI (a := v / 65536) (b := 256) (by omega) (by omega)).mp c3
        refine lv_iload_n hx hb d_ntz_49 rfl (lv_at hl 0 rfl) ?_
        refine lv_bipush (v := nI 16) hx hb d_ntz_50 (by decide) ?_
        refine lv_icmp_le (tgt := 62) hx hb d_ntz_52 (by decide) (fun c4 => ?_) (fun c4 => ?_)
        · replace c4 : v / 65536 ≤ 16 := (nI_leI (a := v / 65536) (b := 16) (by omega) (by omega)).mp c4
          refine lv_iload_n hx hb d_ntz_62 rfl (lv_at hl 0 rfl) ?_
          refine lv_iconst (v := nI 4) hx hb d_ntz_63 (by decide) ?_
          refine lv_icmp_le (tgt := 74) hx hb d_ntz_64 (by decide) (fun c5 => ?_) (fun c5 => ?_)
          · replace c5 : v / 65536 ≤ 4 := (nI_leI (a := v / 65536) (b := 4) (by omega) (by omega)).mp c5
            refine lv_iload_n hx hb d_ntz_74 rfl (lv_at hl 1 rfl) ?_
            refine lv_iload_n hx hb d_ntz_75 rfl (lv_at hl 0 rfl) ?_
            refine lv_iconst (v := nI 1) hx hb d_ntz_76 (by decide) ?_
            refine lv_iushr (v := zu (nI (v / 65536)) (nI 1)) hx hb d_ntz_77 rfl ?_
            refine lv_topi (nm_r (show _ = nI ((v / 65536) / 2) from pk_ushrN (by omega) _ 1 (by decide)) ?_)
            refine lv_iadd hx hb d_ntz_78 ?_
            refine lv_topi (nm_r (show _ = nI (17 + ((v / 65536) / 2)) from nI_add _ _) ?_)
            exact W.iret (v := nI (17 + ((v / 65536) / 2))) hx hb hr (fun t9 ht9 hW9 => ⟨⟨nI (17 + ((v / 65536) / 2)), (), rfl, congrArg nI (by have z9 := z_leaf2 (s := 16) (q := 65536) (by decide) ev (by omega) (by omega); omega), by rw [ht9]; exact hP, va_K.moved hW9.alike hK, hD⟩, hS.F ht9⟩) hS.2.2 d_ntz_79
          · replace c5 : ¬ (v / 65536 ≤ 4) := fun h9 => c5 ((nI_leI (a := v / 65536) (b := 4) (by omega) (by omega)).mpr h9)
            refine lv_iinc (v := nI 19) (lv' := [(1, .int (nI 19)), (0, .int (nI (v / 65536)))]) hx hb d_ntz_67 hl (k := 1) rfl (by decide) (by decide) rfl (fun ls hl => ?_)
            refine lv_iload_n hx hb d_ntz_70 rfl (lv_at hl 1 rfl) ?_
            refine lv_iconst (v := nI 2) hx hb d_ntz_71 (by decide) ?_
            refine lv_iushr (v := zu (nI (v / 65536)) (nI 2)) hx hb d_ntz_72 rfl ?_
            refine lv_topi (nm_r (show _ = nI ((v / 65536) / 4) from pk_ushrN (by omega) _ 2 (by decide)) ?_)
            refine lv_istore_n (lv' := [(0, .int (nI ((v / 65536) / 4))), (1, .int (nI 19))]) hx hb d_ntz_73 rfl hl (by decide) rfl (fun ls hl => ?_)
            refine lv_iload_n hx hb d_ntz_74 rfl (lv_at hl 1 rfl) ?_
            refine lv_iload_n hx hb d_ntz_75 rfl (lv_at hl 0 rfl) ?_
            refine lv_iconst (v := nI 1) hx hb d_ntz_76 (by decide) ?_
            refine lv_iushr (v := zu (nI ((v / 65536) / 4)) (nI 1)) hx hb d_ntz_77 rfl ?_
            refine lv_topi (nm_r (show _ = nI (((v / 65536) / 4) / 2) from pk_ushrN (by omega) _ 1 (by decide)) ?_)
            refine lv_iadd hx hb d_ntz_78 ?_
            refine lv_topi (nm_r (show _ = nI (19 + (((v / 65536) / 4) / 2)) from nI_add _ _) ?_)
            exact W.iret (v := nI (19 + (((v / 65536) / 4) / 2))) hx hb hr (fun t9 ht9 hW9 => ⟨⟨nI (19 + (((v / 65536) / 4) / 2)), (), rfl, congrArg nI (by have z9 := z_leaf2 (s := 18) (q := 262144) (by decide) ev (by omega) (by omega); omega), by rw [ht9]; exact hP, va_K.moved hW9.alike hK, hD⟩, hS.F ht9⟩) hS.2.2 d_ntz_79
        · replace c4 : ¬ (v / 65536 ≤ 16) := fun h9 => c4 ((nI_leI (a := v / 65536) (b := 16) (by omega) (by omega)).mpr h9)
          refine lv_iinc (v := nI 21) (lv' := [(1, .int (nI 21)), (0, .int (nI (v / 65536)))]) hx hb d_ntz_55 hl (k := 1) rfl (by decide) (by decide) rfl (fun ls hl => ?_)
          refine lv_iload_n hx hb d_ntz_58 rfl (lv_at hl 1 rfl) ?_
          refine lv_iconst (v := nI 4) hx hb d_ntz_59 (by decide) ?_
          refine lv_iushr (v := zu (nI (v / 65536)) (nI 4)) hx hb d_ntz_60 rfl ?_
          refine lv_topi (nm_r (show _ = nI ((v / 65536) / 16) from pk_ushrN (by omega) _ 4 (by decide)) ?_)
          refine lv_istore_n (lv' := [(0, .int (nI ((v / 65536) / 16))), (1, .int (nI 21))]) hx hb d_ntz_61 rfl hl (by decide) rfl (fun ls hl => ?_)
          refine lv_iload_n hx hb d_ntz_62 rfl (lv_at hl 0 rfl) ?_
          refine lv_iconst (v := nI 4) hx hb d_ntz_63 (by decide) ?_
          refine lv_icmp_le (tgt := 74) hx hb d_ntz_64 (by decide) (fun c5 => ?_) (fun c5 => ?_)
          · replace c5 : (v / 65536) / 16 ≤ 4 := (nI_leI (a := (v / 65536) / 16) (b := 4) (by omega) (by omega)).mp c5
            refine lv_iload_n hx hb d_ntz_74 rfl (lv_at hl 1 rfl) ?_
            refine lv_iload_n hx hb d_ntz_75 rfl (lv_at hl 0 rfl) ?_
            refine lv_iconst (v := nI 1) hx hb d_ntz_76 (by decide) ?_
            refine lv_iushr (v := zu (nI ((v / 65536) / 16)) (nI 1)) hx hb d_ntz_77 rfl ?_
            refine lv_topi (nm_r (show _ = nI (((v / 65536) / 16) / 2) from pk_ushrN (by omega) _ 1 (by decide)) ?_)
            refine lv_iadd hx hb d_ntz_78 ?_
            refine lv_topi (nm_r (show _ = nI (21 + (((v / 65536) / 16) / 2)) from nI_add _ _) ?_)
            exact W.iret (v := nI (21 + (((v / 65536) / 16) / 2))) hx hb hr (fun t9 ht9 hW9 => ⟨⟨nI (21 + (((v / 65536) / 16) / 2)), (), rfl, congrArg nI (by have z9 := z_leaf2 (s := 20) (q := 1048576) (by decide) ev (by omega) (by omega); omega), by rw [ht9]; exact hP, va_K.moved hW9.alike hK, hD⟩, hS.F ht9⟩) hS.2.2 d_ntz_79
          · replace c5 : ¬ ((v / 65536) / 16 ≤ 4) := fun h9 => c5 ((nI_leI (a := (v / 65536) / 16) (b := 4) (by omega) (by omega)).mpr h9)
            refine lv_iinc (v := nI 23) (lv' := [(1, .int (nI 23)), (0, .int (nI ((v / 65536) / 16)))]) hx hb d_ntz_67 hl (k := 1) rfl (by decide) (by decide) rfl (fun ls hl => ?_)
            refine lv_iload_n hx hb d_ntz_70 rfl (lv_at hl 1 rfl) ?_
            refine lv_iconst (v := nI 2) hx hb d_ntz_71 (by decide) ?_
            refine lv_iushr (v := zu (nI ((v / 65536) / 16)) (nI 2)) hx hb d_ntz_72 rfl ?_
            refine lv_topi (nm_r (show _ = nI (((v / 65536) / 16) / 4) from pk_ushrN (by omega) _ 2 (by decide)) ?_)
            refine lv_istore_n (lv' := [(0, .int (nI (((v / 65536) / 16) / 4))), (1, .int (nI 23))]) hx hb d_ntz_73 rfl hl (by decide) rfl (fun ls hl => ?_)
            refine lv_iload_n hx hb d_ntz_74 rfl (lv_at hl 1 rfl) ?_
            refine lv_iload_n hx hb d_ntz_75 rfl (lv_at hl 0 rfl) ?_
            refine lv_iconst (v := nI 1) hx hb d_ntz_76 (by decide) ?_
            refine lv_iushr (v := zu (nI (((v / 65536) / 16) / 4)) (nI 1)) hx hb d_ntz_77 rfl ?_
            refine lv_topi (nm_r (show _ = nI ((((v / 65536) / 16) / 4) / 2) from pk_ushrN (by omega) _ 1 (by decide)) ?_)
            refine lv_iadd hx hb d_ntz_78 ?_
            refine lv_topi (nm_r (show _ = nI (23 + ((((v / 65536) / 16) / 4) / 2)) from nI_add _ _) ?_)
            exact W.iret (v := nI (23 + ((((v / 65536) / 16) / 4) / 2))) hx hb hr (fun t9 ht9 hW9 => ⟨⟨nI (23 + ((((v / 65536) / 16) / 4) / 2)), (), rfl, congrArg nI (by have z9 := z_leaf2 (s := 22) (q := 4194304) (by decide) ev (by omega) (by omega); omega), by rw [ht9]; exact hP, va_K.moved hW9.alike hK, hD⟩, hS.F ht9⟩) hS.2.2 d_ntz_79
      · replace c3 : ¬ (v / 65536 ≤ 256) := fun h9 => c3 ((nI_leI (a := v / 65536) (b := 256) (by omega) (by omega)).mpr h9)
        refine lv_iinc (v := nI 25) (lv' := [(1, .int (nI 25)), (0, .int (nI (v / 65536)))]) hx hb d_ntz_41 hl (k := 1) rfl (by decide) (by decide) rfl (fun ls hl => ?_)
        refine lv_iload_n hx hb d_ntz_44 rfl (lv_at hl 1 rfl) ?_
        refine lv_bipush (v := nI 8) hx hb d_ntz_45 (by decide) ?_
        refine lv_iushr (v := zu (nI (v / 65536)) (nI 8)) hx hb d_ntz_47 rfl ?_
        refine lv_topi (nm_r (show _ = nI ((v / 65536) / 256) from pk_ushrN (by omega) _ 8 (by decide)) ?_)
        refine lv_istore_n (lv' := [(0, .int (nI ((v / 65536) / 256))), (1, .int (nI 25))]) hx hb d_ntz_48 rfl hl (by decide) rfl (fun ls hl => ?_)
        refine lv_iload_n hx hb d_ntz_49 rfl (lv_at hl 0 rfl) ?_
        refine lv_bipush (v := nI 16) hx hb d_ntz_50 (by decide) ?_
        refine lv_icmp_le (tgt := 62) hx hb d_ntz_52 (by decide) (fun c4 => ?_) (fun c4 => ?_)
        · replace c4 : (v / 65536) / 256 ≤ 16 := (nI_leI (a := (v / 65536) / 256) (b := 16) (by omega) (by omega)).mp c4
          refine lv_iload_n hx hb d_ntz_62 rfl (lv_at hl 0 rfl) ?_
          refine lv_iconst (v := nI 4) hx hb d_ntz_63 (by decide) ?_
          refine lv_icmp_le (tgt := 74) hx hb d_ntz_64 (by decide) (fun c5 => ?_) (fun c5 => ?_)
          · replace c5 : (v / 65536) / 256 ≤ 4 := (nI_leI (a := (v / 65536) / 256) (b := 4) (by omega) (by omega)).mp c5
            refine lv_iload_n hx hb d_ntz_74 rfl (lv_at hl 1 rfl) ?_
            refine lv_iload_n hx hb d_ntz_75 rfl (lv_at hl 0 rfl) ?_
            refine lv_iconst (v := nI 1) hx hb d_ntz_76 (by decide) ?_
            refine lv_iushr (v := zu (nI ((v / 65536) / 256)) (nI 1)) hx hb d_ntz_77 rfl ?_
            refine lv_topi (nm_r (show _ = nI (((v / 65536) / 256) / 2) from pk_ushrN (by omega) _ 1 (by decide)) ?_)
            refine lv_iadd hx hb d_ntz_78 ?_
            refine lv_topi (nm_r (show _ = nI (25 + (((v / 65536) / 256) / 2)) from nI_add _ _) ?_)
            exact W.iret (v := nI (25 + (((v / 65536) / 256) / 2))) hx hb hr (fun t9 ht9 hW9 => ⟨⟨nI (25 + (((v / 65536) / 256) / 2)), (), rfl, congrArg nI (by have z9 := z_leaf2 (s := 24) (q := 16777216) (by decide) ev (by omega) (by omega); omega), by rw [ht9]; exact hP, va_K.moved hW9.alike hK, hD⟩, hS.F ht9⟩) hS.2.2 d_ntz_79
          · replace c5 : ¬ ((v / 65536) / 256 ≤ 4) := fun h9 => c5 ((nI_leI (a := (v / 65536) / 256) (b := 4) (by omega) (by omega)).mpr h9)
            refine lv_iinc (v := nI 27) (lv' := [(1, .int (nI 27)), (0, .int (nI ((v / 65536) / 256)))]) hx hb d_ntz_67 hl (k := 1) rfl (by decide) (by decide) rfl (fun ls hl => ?_)
            refine lv_iload_n hx hb d_ntz_70 rfl (lv_at hl 1 rfl) ?_
            refine lv_iconst (v := nI 2) hx hb d_ntz_71 (by decide) ?_
            refine lv_iushr (v := zu (nI ((v / 65536) / 256)) (nI 2)) hx hb d_ntz_72 rfl ?_
            refine lv_topi (nm_r (show _ = nI (((v / 65536) / 256) / 4) from pk_ushrN (by omega) _ 2 (by decide)) ?_)
            refine lv_istore_n (lv' := [(0, .int (nI (((v / 65536) / 256) / 4))), (1, .int (nI 27))]) hx hb d_ntz_73 rfl hl (by decide) rfl (fun ls hl => ?_)
            refine lv_iload_n hx hb d_ntz_74 rfl (lv_at hl 1 rfl) ?_
            refine lv_iload_n hx hb d_ntz_75 rfl (lv_at hl 0 rfl) ?_
            refine lv_iconst (v := nI 1) hx hb d_ntz_76 (by decide) ?_
            refine lv_iushr (v := zu (nI (((v / 65536) / 256) / 4)) (nI 1)) hx hb d_ntz_77 rfl ?_
            refine lv_topi (nm_r (show _ = nI ((((v / 65536) / 256) / 4) / 2) from pk_ushrN (by omega) _ 1 (by decide)) ?_)
            refine lv_iadd hx hb d_ntz_78 ?_
            refine lv_topi (nm_r (show _ = nI (27 + ((((v / 65536) / 256) / 4) / 2)) from nI_add _ _) ?_)
            exact W.iret (v := nI (27 + ((((v / 65536) / 256) / 4) / 2))) hx hb hr (fun t9 ht9 hW9 => ⟨⟨nI (27 + ((((v / 65536) / 256) / 4) / 2)), (), rfl, congrArg nI (by have z9 := z_leaf2 (s := 26) (q := 67108864) (by decide) ev (by omega) (by omega); omega), by rw [ht9]; exact hP, va_K.moved hW9.alike hK, hD⟩, hS.F ht9⟩) hS.2.2 d_ntz_79
        · replace c4 : ¬ ((v / 65536) / 256 ≤ 16) := fun h9 => c4 ((nI_leI (a := (v / 65536) / 256) (b := 16) (by omega) (by omega)).mpr h9)
          refine lv_iinc (v := nI 29) (lv' := [(1, .int (nI 29)), (0, .int (nI ((v / 65536) / 256)))]) hx hb d_ntz_55 hl (k := 1) rfl (by decide) (by decide) rfl (fun ls hl => ?_)
          refine lv_iload_n hx hb d_ntz_58 rfl (lv_at hl 1 rfl) ?_
          refine lv_iconst (v := nI 4) hx hb d_ntz_59 (by decide) ?_
          refine lv_iushr (v := zu (nI ((v / 65536) / 256)) (nI 4)) hx hb d_ntz_60 rfl ?_
          refine lv_topi (nm_r (show _ = nI (((v / 65536) / 256) / 16) from pk_ushrN (by omega) _ 4 (by decide)) ?_)
          refine lv_istore_n (lv' := [(0, .int (nI (((v / 65536) / 256) / 16))), (1, .int (nI 29))]) hx hb d_ntz_61 rfl hl (by decide) rfl (fun ls hl => ?_)
          refine lv_iload_n hx hb d_ntz_62 rfl (lv_at hl 0 rfl) ?_
          refine lv_iconst (v := nI 4) hx hb d_ntz_63 (by decide) ?_
          refine lv_icmp_le (tgt := 74) hx hb d_ntz_64 (by decide) (fun c5 => ?_) (fun c5 => ?_)
          · replace c5 : ((v / 65536) / 256) / 16 ≤ 4 := (nI_leI (a := ((v / 65536) / 256) / 16) (b := 4) (by omega) (by omega)).mp c5
            refine lv_iload_n hx hb d_ntz_74 rfl (lv_at hl 1 rfl) ?_
            refine lv_iload_n hx hb d_ntz_75 rfl (lv_at hl 0 rfl) ?_
            refine lv_iconst (v := nI 1) hx hb d_ntz_76 (by decide) ?_
            refine lv_iushr (v := zu (nI (((v / 65536) / 256) / 16)) (nI 1)) hx hb d_ntz_77 rfl ?_
            refine lv_topi (nm_r (show _ = nI ((((v / 65536) / 256) / 16) / 2) from pk_ushrN (by omega) _ 1 (by decide)) ?_)
            refine lv_iadd hx hb d_ntz_78 ?_
            refine lv_topi (nm_r (show _ = nI (29 + ((((v / 65536) / 256) / 16) / 2)) from nI_add _ _) ?_)
            exact W.iret (v := nI (29 + ((((v / 65536) / 256) / 16) / 2))) hx hb hr (fun t9 ht9 hW9 => ⟨⟨nI (29 + ((((v / 65536) / 256) / 16) / 2)), (), rfl, congrArg nI (by have z9 := z_leaf2 (s := 28) (q := 268435456) (by decide) ev (by omega) (by omega); omega), by rw [ht9]; exact hP, va_K.moved hW9.alike hK, hD⟩, hS.F ht9⟩) hS.2.2 d_ntz_79
          · replace c5 : ¬ (((v / 65536) / 256) / 16 ≤ 4) := fun h9 => c5 ((nI_leI (a := ((v / 65536) / 256) / 16) (b := 4) (by omega) (by omega)).mpr h9)
            refine lv_iinc (v := nI 31) (lv' := [(1, .int (nI 31)), (0, .int (nI (((v / 65536) / 256) / 16)))]) hx hb d_ntz_67 hl (k := 1) rfl (by decide) (by decide) rfl (fun ls hl => ?_)
            refine lv_iload_n hx hb d_ntz_70 rfl (lv_at hl 1 rfl) ?_
            refine lv_iconst (v := nI 2) hx hb d_ntz_71 (by decide) ?_
            refine lv_iushr (v := zu (nI (((v / 65536) / 256) / 16)) (nI 2)) hx hb d_ntz_72 rfl ?_
            refine lv_topi (nm_r (show _ = nI ((((v / 65536) / 256) / 16) / 4) from pk_ushrN (by omega) _ 2 (by decide)) ?_)
            refine lv_istore_n (lv' := [(0, .int (nI ((((v / 65536) / 256) / 16) / 4))), (1, .int (nI 31))]) hx hb d_ntz_73 rfl hl (by decide) rfl (fun ls hl => ?_)
            refine lv_iload_n hx hb d_ntz_74 rfl (lv_at hl 1 rfl) ?_
            refine lv_iload_n hx hb d_ntz_75 rfl (lv_at hl 0 rfl) ?_
            refine lv_iconst (v := nI 1) hx hb d_ntz_76 (by decide) ?_
            refine lv_iushr (v := zu (nI ((((v / 65536) / 256) / 16) / 4)) (nI 1)) hx hb d_ntz_77 rfl ?_
            refine lv_topi (nm_r (show _ = nI (((((v / 65536) / 256) / 16) / 4) / 2) from pk_ushrN (by omega) _ 1 (by decide)) ?_)
            refine lv_iadd hx hb d_ntz_78 ?_
            refine lv_topi (nm_r (show _ = nI (31 + (((((v / 65536) / 256) / 16) / 4) / 2)) from nI_add _ _) ?_)
            exact W.iret (v := nI (31 + (((((v / 65536) / 256) / 16) / 4) / 2))) hx hb hr (fun t9 ht9 hW9 => ⟨⟨nI (31 + (((((v / 65536) / 256) / 16) / 4) / 2)), (), rfl, congrArg nI (by have z9 := z_leaf2 (s := 30) (q := 1073741824) (by decide) ev (by omega) (by omega); omega), by rw [ht9]; exact hP, va_K.moved hW9.alike hK, hD⟩, hS.F ht9⟩) hS.2.2 d_ntz_79
  · replace c1 : ¬ (0 < v) := fun h9 => c1 ((nI_ltI (a := 0) (b := v) (by omega) (by omega)).mpr h9)
    refine lv_iload_n hx hb d_ntz_12 rfl (lv_at hl 0 rfl) ?_
    refine lv_bipush (v := nI 32) hx hb d_ntz_13 (by decide) ?_
    refine lv_iand hx hb d_ntz_15 ?_
    exact W.iret (v := (nI v) &&& (nI 32)) hx hb hr (fun t9 ht9 hW9 => ⟨⟨(nI v) &&& (nI 32), (), rfl, z_ntz0 (z_t0 ev (by omega)) (by omega), by rw [ht9]; exact hP, va_K.moved hW9.alike hK, hD⟩, hS.F ht9⟩) hS.2.2 d_ntz_16
set_option maxHeartbeats 4000000 in
set_option maxRecDepth 100000 in
/-- Integer.bitCount(x) -/
theorem k_pop (l : Launch) (dC : Nat → ClassId) (dI : Nat → Nat → Nat)  (sz : Nat) (x : Int32) : Met l y_pop ws_pop ({ frames := 0, cells := 0, slots := 0, locals := 0 }) (va_Pc [.int x] (cc_P (dC, dI) vwCl ([] : va_W) [] sz)) (va_Qi (S := Unit) (fun (r : Int32) (_ : Unit) => r = nI (zc (bt x) 32)) (fun u t => cc_B (dC, dI) vwCl [] (va_A ([] : va_W) sz) ((fun _ : Unit => ([] : va_W)) u) t) (va_A ([] : va_W) sz)) 0 0 (va_A ([] : va_W) sz) := by
  refine Met.ofW (cc := c_pop) (maxL := 1) (ret := (some .int)) (by decide) rfl ?_
  intro p e s m args below meth c s₁ B hml hv
  obtain ⟨rfl, hsz, hP, hK, hD0⟩ := hv
  have hx := B.exec
  have hb := B.bytes
  have hr := B.returns
  have hts : ∀ w ∈ zAll, w.before _ s = true := fun w h => atoms_spec (ws := ws_pop) B.pre w (List.mem_cons_of_mem _ h)
  have hown : s.vm.findClass RI = some m.cls := findClass_of_methodNamed B.named
  have hlocks := B.notSynchronized
  subst hsz
  have hD := hD0.self (sz := s.heap.size)
  generalize hAe : va_A ([] : va_W) s.heap.size = A at hD ⊢
  have hA : ∀ q : Nat, s.heap.size ≤ q → A q := fun q h => by rw [← hAe]; exact Or.inr h
  have hS : va_S A s.heap s.heap [] := va_S.rf
  replace hP : va_P (dC, dI) vwCl [] s.heap := hP
  replace hD : va_D A [] := hD
  have hl := lv_entry ([.int x]) (n := 1) (Nat.le_of_ble_eq_true rfl)
  rw [lg_entry_eq]
  generalize (lg_sl ([.int x]) ++ List.replicate (1 - (lg_sl ([.int x])).length) Slot.unset).toArray = ls at hl ⊢
  replace hl : lv_has ls 1 [(0, .int x)] := hl
  refine lv_iload_n hx hb d_pop_0 rfl (lv_at hl 0 rfl) ?_
  refine lv_iload_n hx hb d_pop_1 rfl (lv_at hl 0 rfl) ?_
  refine lv_iconst (v := (1 : Int32)) hx hb d_pop_2 (by decide) ?_
  refine lv_iushr (v := zu x (1 : Int32)) hx hb d_pop_3 rfl ?_
  refine lv_ldcw (v := 1431655765) hx hb hown (hts _ wk_265) d_pop_4 ?_
  refine lv_iand hx hb d_pop_7 ?_
  refine lv_isub hx hb d_pop_8 ?_
  refine lv_istore_n (lv' := [(0, .int (x - ((zu x (1 : Int32)) &&& (1431655765 : Int32))))]) hx hb d_pop_9 rfl hl (by decide) rfl (fun ls hl => ?_)
  refine lv_iload_n hx hb d_pop_10 rfl (lv_at hl 0 rfl) ?_
  refine lv_ldcw (v := 858993459) hx hb hown (hts _ wk_266) d_pop_11 ?_
  refine lv_iand hx hb d_pop_14 ?_
  refine lv_iload_n hx hb d_pop_15 rfl (lv_at hl 0 rfl) ?_
  refine lv_iconst (v := (2 : Int32)) hx hb d_pop_16 (by decide) ?_
  refine lv_iushr (v := zu (x - ((zu x (1 : Int32)) &&& (1431655765 : Int32))) (2 : Int32)) hx hb d_pop_17 rfl ?_
  refine lv_ldcw (v := 858993459) hx hb hown (hts _ wk_266) d_pop_18 ?_
  refine lv_iand hx hb d_pop_21 ?_
  refine lv_iadd hx hb d_pop_22 ?_
  refine lv_istore_n (lv' := [(0, .int (((x - ((zu x (1 : Int32)) &&& (1431655765 : Int32))) &&& (858993459 : Int32)) + ((zu (x - ((zu x (1 : Int32)) &&& (1431655765 : Int32))) (2 : Int32)) &&& (858993459 : Int32))))]) hx hb d_pop_23 rfl hl (by decide) rfl (fun ls hl => ?_)
  refine lv_iload_n hx hb d_pop_24 rfl (lv_at hl 0 rfl) ?_
  refine lv_iload_n hx hb d_pop_25 rfl (lv_at hl 0 rfl) ?_
  refine lv_iconst (v := (4 : Int32)) hx hb d_pop_26 (by decide) ?_
  refine lv_iushr (v := zu (((x - ((zu x (1 : Int32)) &&& (1431655765 : Int32))) &&& (858993459 : Int32)) + ((zu (x - ((zu x (1 : Int32)) &&& (1431655765 : Int32))) (2 : Int32)) &&& (858993459 : Int32))) (4 : Int32)) hx hb d_pop_27 rfl ?_
  refine lv_iadd hx hb d_pop_28 ?_
  refine lv_ldcw (v := 252645135) hx hb hown (hts _ wk_267) d_pop_29 ?_
  refine lv_iand hx hb d_pop_32 ?_
  refine lv_istore_n (lv' := [(0, .int (((((x - ((zu x (1 : Int32)) &&& (1431655765 : Int32))) &&& (858993459 : Int32)) + ((zu (x - ((zu x (1 : Int32)) &&& (1431655765 : Int32))) (2 : Int32)) &&& (858993459 : Int32))) + (zu (((x - ((zu x (1 : Int32)) &&& (1431655765 : Int32))) &&& (858993459 : Int32)) + ((zu (x - ((zu x (1 : Int32)) &&& (1431655765 : Int32))) (2 : Int32)) &&& (858993459 : Int32))) (4 : Int32))) &&& (252645135 : Int32)))]) hx hb d_pop_33 rfl hl (by decide) rfl (fun ls hl => ?_)
  refine lv_iload_n hx hb d_pop_34 rfl (lv_at hl 0 rfl) ?_
  refine lv_iload_n hx hb d_pop_35 rfl (lv_at hl 0 rfl) ?_
  refine lv_bipush (v := (8 : Int32)) hx hb d_pop_36 (by decide) ?_
  refine lv_iushr (v := zu (((((x - ((zu x (1 : Int32)) &&& (1431655765 : Int32))) &&& (858993459 : Int32)) + ((zu (x - ((zu x (1 : Int32)) &&& (1431655765 : Int32))) (2 : Int32)) &&& (858993459 : Int32))) + (zu (((x - ((zu x (1 : Int32)) &&& (1431655765 : Int32))) &&& (858993459 : Int32)) + ((zu (x - ((zu x (1 : Int32)) &&& (1431655765 : Int32))) (2 : Int32)) &&& (858993459 : Int32))) (4 : Int32))) &&& (252645135 : Int32)) (8 : Int32)) hx hb d_pop_38 rfl ?_
  refine lv_iadd hx hb d_pop_39 ?_
  refine lv_istore_n (lv' := [(0, .int ((((((x - ((zu x (1 : Int32)) &&& (1431655765 : Int32))) &&& (858993459 : Int32)) + ((zu (x - ((zu x (1 : Int32)) &&& (1431655765 : Int32))) (2 : Int32)) &&& (858993459 : Int32))) + (zu (((x - ((zu x (1 : Int32)) &&& (1431655765 : Int32))) &&& (858993459 : Int32)) + ((zu (x - ((zu x (1 : Int32)) &&& (1431655765 : Int32))) (2 : Int32)) &&& (858993459 : Int32))) (4 : Int32))) &&& (252645135 : Int32)) + (zu (((((x - ((zu x (1 : Int32)) &&& (1431655765 : Int32))) &&& (858993459 : Int32)) + ((zu (x - ((zu x (1 : Int32)) &&& (1431655765 : Int32))) (2 : Int32)) &&& (858993459 : Int32))) + (zu (((x - ((zu x (1 : Int32)) &&& (1431655765 : Int32))) &&& (858993459 : Int32)) + ((zu (x - ((zu x (1 : Int32)) &&& (1431655765 : Int32))) (2 : Int32)) &&& (858993459 : Int32))) (4 : Int32))) &&& (252645135 : Int32)) (8 : Int32))))]) hx hb d_pop_40 rfl hl (by decide) rfl (fun ls hl => ?_)
  refine lv_iload_n hx hb d_pop_41 rfl (lv_at hl 0 rfl) ?_
  refine lv_iload_n hx hb d_pop_42 rfl (lv_at hl 0 rfl) ?_
  refine lv_bipush (v := (16 : Int32)) hx hb d_pop_43 (by decide) ?_
  refine lv_iushr (v := zu ((((((x - ((zu x (1 : Int32)) &&& (1431655765 : Int32))) &&& (858993459 : Int32)) + ((zu (x - ((zu x (1 : Int32)) &&& (1431655765 : Int32))) (2 : Int32)) &&& (858993459 : Int32))) + (zu (((x - ((zu x (1 : Int32)) &&& (1431655765 : Int32))) &&& (858993459 : Int32)) + ((zu (x - ((zu x (1 : Int32)) &&& (1431655765 : Int32))) (2 : Int32)) &&& (858993459 : Int32))) (4 : Int32))) &&& (252645135 : Int32)) + (zu (((((x - ((zu x (1 : Int32)) &&& (1431655765 : Int32))) &&& (858993459 : Int32)) + ((zu (x - ((zu x (1 : Int32)) &&& (1431655765 : Int32))) (2 : Int32)) &&& (858993459 : Int32))) + (zu (((x - ((zu x (1 : Int32)) &&& (1431655765 : Int32))) &&& (858993459 : Int32)) + ((zu (x - ((zu x (1 : Int32)) &&& (1431655765 : Int32))) (2 : Int32)) &&& (858993459 : Int32))) (4 : Int32))) &&& (252645135 : Int32)) (8 : Int32))) (16 : Int32)) hx hb d_pop_45 rfl ?_
  refine lv_iadd hx hb d_pop_46 ?_
  refine lv_istore_n (lv' := [(0, .int (((((((x - ((zu x (1 : Int32)) &&& (1431655765 : Int32))) &&& (858993459 : Int32)) + ((zu (x - ((zu x (1 : Int32)) &&& (1431655765 : Int32))) (2 : Int32)) &&& (858993459 : Int32))) + (zu (((x - ((zu x (1 : Int32)) &&& (1431655765 : Int32))) &&& (858993459 : Int32)) + ((zu (x - ((zu x (1 : Int32)) &&& (1431655765 : Int32))) (2 : Int32)) &&& (858993459 : Int32))) (4 : Int32))) &&& (252645135 : Int32)) + (zu (((((x - ((zu x (1 : Int32)) &&& (1431655765 : Int32))) &&& (858993459 : Int32)) + ((zu (x - ((zu x (1 : Int32)) &&& (1431655765 : Int32))) (2 : Int32)) &&& (858993459 : Int32))) + (zu (((x - ((zu x (1 : Int32)) &&& (1431655765 : Int32))) &&& (858993459 : Int32)) + ((zu (x - ((zu x (1 : Int32)) &&& (1431655765 : Int32))) (2 : Int32)) &&& (858993459 : Int32))) (4 : Int32))) &&& (252645135 : Int32)) (8 : Int32))) + (zu ((((((x - ((zu x (1 : Int32)) &&& (1431655765 : Int32))) &&& (858993459 : Int32)) + ((zu (x - ((zu x (1 : Int32)) &&& (1431655765 : Int32))) (2 : Int32)) &&& (858993459 : Int32))) + (zu (((x - ((zu x (1 : Int32)) &&& (1431655765 : Int32))) &&& (858993459 : Int32)) + ((zu (x - ((zu x (1 : Int32)) &&& (1431655765 : Int32))) (2 : Int32)) &&& (858993459 : Int32))) (4 : Int32))) &&& (252645135 : Int32)) + (zu (((((x - ((zu x (1 : Int32)) &&& (1431655765 : Int32))) &&& (858993459 : Int32)) + ((zu (x - ((zu x (1 : Int32)) &&& (1431655765 : Int32))) (2 : Int32)) &&& (858993459 : Int32))) + (zu (((x - ((zu x (1 : Int32)) &&& (1431655765 : Int32))) &&& (858993459 : Int32)) + ((zu (x - ((zu x (1 : Int32)) &&& (1431655765 : Int32))) (2 : Int32)) &&& (858993459 : Int32))) (4 : Int32))) &&& (252645135 : Int32)) (8 : Int32))) (16 : Int32))))]) hx hb d_pop_47 rfl hl (by decide) rfl (fun ls hl => ?_)
  refine lv_iload_n hx hb d_pop_48 rfl (lv_at hl 0 rfl) ?_
  refine lv_bipush (v := (63 : Int32)) hx hb d_pop_49 (by decide) ?_
  refine lv_iand hx hb d_pop_51 ?_
  exact W.iret (v := (((((((x - ((zu x (1 : Int32)) &&& (1431655765 : Int32))) &&& (858993459 : Int32)) + ((zu (x - ((zu x (1 : Int32)) &&& (1431655765 : Int32))) (2 : Int32)) &&& (858993459 : Int32))) + (zu (((x - ((zu x (1 : Int32)) &&& (1431655765 : Int32))) &&& (858993459 : Int32)) + ((zu (x - ((zu x (1 : Int32)) &&& (1431655765 : Int32))) (2 : Int32)) &&& (858993459 : Int32))) (4 : Int32))) &&& (252645135 : Int32)) + (zu (((((x - ((zu x (1 : Int32)) &&& (1431655765 : Int32))) &&& (858993459 : Int32)) + ((zu (x - ((zu x (1 : Int32)) &&& (1431655765 : Int32))) (2 : Int32)) &&& (858993459 : Int32))) + (zu (((x - ((zu x (1 : Int32)) &&& (1431655765 : Int32))) &&& (858993459 : Int32)) + ((zu (x - ((zu x (1 : Int32)) &&& (1431655765 : Int32))) (2 : Int32)) &&& (858993459 : Int32))) (4 : Int32))) &&& (252645135 : Int32)) (8 : Int32))) + (zu ((((((x - ((zu x (1 : Int32)) &&& (1431655765 : Int32))) &&& (858993459 : Int32)) + ((zu (x - ((zu x (1 : Int32)) &&& (1431655765 : Int32))) (2 : Int32)) &&& (858993459 : Int32))) + (zu (((x - ((zu x (1 : Int32)) &&& (1431655765 : Int32))) &&& (858993459 : Int32)) + ((zu (x - ((zu x (1 : Int32)) &&& (1431655765 : Int32))) (2 : Int32)) &&& (858993459 : Int32))) (4 : Int32))) &&& (252645135 : Int32)) + (zu (((((x - ((zu x (1 : Int32)) &&& (1431655765 : Int32))) &&& (858993459 : Int32)) + ((zu (x - ((zu x (1 : Int32)) &&& (1431655765 : Int32))) (2 : Int32)) &&& (858993459 : Int32))) + (zu (((x - ((zu x (1 : Int32)) &&& (1431655765 : Int32))) &&& (858993459 : Int32)) + ((zu (x - ((zu x (1 : Int32)) &&& (1431655765 : Int32))) (2 : Int32)) &&& (858993459 : Int32))) (4 : Int32))) &&& (252645135 : Int32)) (8 : Int32))) (16 : Int32))) &&& (63 : Int32)) hx hb hr (fun t9 ht9 hW9 => ⟨⟨(((((((x - ((zu x (1 : Int32)) &&& (1431655765 : Int32))) &&& (858993459 : Int32)) + ((zu (x - ((zu x (1 : Int32)) &&& (1431655765 : Int32))) (2 : Int32)) &&& (858993459 : Int32))) + (zu (((x - ((zu x (1 : Int32)) &&& (1431655765 : Int32))) &&& (858993459 : Int32)) + ((zu (x - ((zu x (1 : Int32)) &&& (1431655765 : Int32))) (2 : Int32)) &&& (858993459 : Int32))) (4 : Int32))) &&& (252645135 : Int32)) + (zu (((((x - ((zu x (1 : Int32)) &&& (1431655765 : Int32))) &&& (858993459 : Int32)) + ((zu (x - ((zu x (1 : Int32)) &&& (1431655765 : Int32))) (2 : Int32)) &&& (858993459 : Int32))) + (zu (((x - ((zu x (1 : Int32)) &&& (1431655765 : Int32))) &&& (858993459 : Int32)) + ((zu (x - ((zu x (1 : Int32)) &&& (1431655765 : Int32))) (2 : Int32)) &&& (858993459 : Int32))) (4 : Int32))) &&& (252645135 : Int32)) (8 : Int32))) + (zu ((((((x - ((zu x (1 : Int32)) &&& (1431655765 : Int32))) &&& (858993459 : Int32)) + ((zu (x - ((zu x (1 : Int32)) &&& (1431655765 : Int32))) (2 : Int32)) &&& (858993459 : Int32))) + (zu (((x - ((zu x (1 : Int32)) &&& (1431655765 : Int32))) &&& (858993459 : Int32)) + ((zu (x - ((zu x (1 : Int32)) &&& (1431655765 : Int32))) (2 : Int32)) &&& (858993459 : Int32))) (4 : Int32))) &&& (252645135 : Int32)) + (zu (((((x - ((zu x (1 : Int32)) &&& (1431655765 : Int32))) &&& (858993459 : Int32)) + ((zu (x - ((zu x (1 : Int32)) &&& (1431655765 : Int32))) (2 : Int32)) &&& (858993459 : Int32))) + (zu (((x - ((zu x (1 : Int32)) &&& (1431655765 : Int32))) &&& (858993459 : Int32)) + ((zu (x - ((zu x (1 : Int32)) &&& (1431655765 : Int32))) (2 : Int32)) &&& (858993459 : Int32))) (4 : Int32))) &&& (252645135 : Int32)) (8 : Int32))) (16 : Int32))) &&& (63 : Int32), (), rfl, z_pop x, by rw [ht9]; exact hP, va_K.moved hW9.alike hK, hD⟩, hS.F ht9⟩) hS.2.2 d_pop_52
