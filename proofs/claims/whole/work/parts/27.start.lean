set_option maxHeartbeats 40000000 in
set_option maxRecDepth 100000 in
/-- THE LAW, from its entry -/
theorem whole_start {p : Program} {e : Env} {s : State} {m : MethodId} {below : List Frame} {meth : Method} {c : Code} (l : Launch) (hlt : l.stackTraces = false) {b L : Nat} {xs : Nat → Int32} (hL : L ≤ 1536) (C0 : lw_At p s m meth c b L xs) : W p l e room_1 s m #[Value.ref b] below meth c s.heap [] 0 0 (lw_Z below #[Value.ref b] s) (entryFrame m ([Value.ref b] : List Value).toArray 7) := by
  obtain ⟨hx, hb, hr, hml, hown0, hts0, hX, hbl, hlocks, hgv⟩ := id C0
  have hown : s.vm.findClass RL = some m.cls := hown0
  have hts : ∀ w ∈ zAll, w.before #[Value.ref b] s = true := fun w h => hts0 w (List.mem_filter.mp h).1
  have hZ := zThr_0 hts0 hgv
  have hA : ∀ q : Nat, s.heap.size ≤ q → (fun q : Nat => s.heap.size ≤ q) q := fun _ h => h
  have hbA : ¬ (fun q : Nat => s.heap.size ≤ q) b := Nat.not_le.mpr hbl
  obtain ⟨c0, iS0, hKn0⟩ := u_known (C := RX) (T := TX) (N := 4) (n := 4) hts inX (hts _ wio_X)
  obtain ⟨c1, iS1, hKn1⟩ := u_known (C := RM) (T := TM) (N := 3) (n := 3) hts inM (hts _ wio_M)
  obtain ⟨dC, dI, hKc⟩ : ∃ (dC : Nat → ClassId) (dI : Nat → Nat → Nat), ∀ (k : Nat) (q : vw_C), vwCl[k]? = some q → u_Kn s q.1 q.2.1 q.2.2 (dC k) (dI k) := by
    refine ⟨fun k => if k = 0 then c0 else c1, fun k => if k = 0 then iS0 else iS1, ?_⟩
    intro k q hq
    match k, hq with
    | 0, hq => cases hq; exact hKn0
    | 1, hq => cases hq; exact hKn1
    | k + 2, hq => simp [vwCl] at hq
  have hS : va_S (fun q : Nat => s.heap.size ≤ q) s.heap s.heap [] := va_S.rf
  have hK : va_K (dC, dI) vwCl [] s := ⟨hKc, fun k q h => by simp at h⟩
  have hP : va_P (dC, dI) vwCl [] s.heap := fun k q h => by simp at h
  have hD : va_D (fun q : Nat => s.heap.size ≤ q) [] := ⟨fun i j p q h => by simp at h, fun k q h => by simp at h⟩
  have hl := lv_entry ([.ref b]) (n := 7) (Nat.le_of_ble_eq_true rfl)
  rw [lg_entry_eq]
  generalize (lg_sl ([.ref b]) ++ List.replicate (7 - (lg_sl ([.ref b])).length) Slot.unset).toArray = ls at hl ⊢
  replace hl : lv_has ls 7 [(0, .ref b)] := hl
  refine va_new (ci := 0) (fs := [.null, .null, .int 0, .int 0]) (C := RX) (T := TX) (N := 4) hx hb hts inX tyX tyX_ok hown (hts _ wl_L_8) (hts _ wio_X) (hts _ win_X) hK hP hD hS hA rfl (fun j hj => by rcases (show j = 0 ∨ j = 1 ∨ j = 2 ∨ j = 3 by omega) with rfl | rfl | rfl | rfl <;> rfl) (by decide) (by decide) d_L_law_0 (fun h0 H hP hD hS => ?_)
  replace hP : va_P (dC, dI) vwCl [(h0, .inr (0, [.null, .null, .int 0, .int 0]))] H := hP
  replace hD : va_D (fun q : Nat => s.heap.size ≤ q) [(h0, .inr (0, [.null, .null, .int 0, .int 0]))] := hD
  refine W.widen (k := 1) (n := 4) (by decide) (by decide) ?_
  refine lv_dup hx hb d_L_law_3 rfl ?_
  refine cc_I (wc := [(h0, .inr (0, [.null, .null, .int 0, .int 0]))]) (wr := []) (tys' := []) ⟨hx, hb, hml, hown, hts⟩ hP hD hK hS hA [0] [] [] rfl rfl rfl (by decide) (by decide) (by decide) rfl (c_init l dC dI h0 _) (cwI 0 hts g_L_42 rfl rfl rfl (hts _ win_X) (hts _ wl_L_42) (hts _ wim_X_init) rfl (by decide +kernel) ⟨Nat.le_of_ble_eq_true rfl, Nat.le_of_ble_eq_true rfl⟩) rfl hl.1 rfl (Nat.le_of_ble_eq_true rfl) d_L_law_4 ⟨Nat.le_of_ble_eq_true rfl, Nat.le_of_ble_eq_true rfl⟩ (fun u H locs hw hK hP hD hS => ?_)
  obtain ⟨h1, h2, cA, cB, M, S⟩ := u
  obtain ⟨g0, hM0⟩ := hw
  dsimp only at g0 hM0 hK hP hD
  replace hK : va_K (dC, dI) vwCl [(cA, .int), (cB, .int)] s := hK
  replace hP : va_P (dC, dI) vwCl [(h0, .inr (0, [.ref h1, .ref h2, .int (nI 1024), .int (nI 1)])), (h1, .inl (cA, 512, .inl M)), (h2, .inl (cB, 512, .inl S))] H := hP
  replace hD : va_D (fun q : Nat => s.heap.size ≤ q) [(h0, .inr (0, [.ref h1, .ref h2, .int (nI 1024), .int (nI 1)])), (h1, .inl (cA, 512, .inl M)), (h2, .inl (cB, 512, .inl S))] := hD
  refine W.widen (k := 3) (n := 1028) (by decide) (by decide) ?_
  refine lv_astore_n (lv' := [(1, .ref h0), (0, .ref b)]) hx hb d_L_law_7 rfl hl (by decide) rfl (fun ls hl => ?_)
  refine va_new (ci := 1) (fs := [.int 0, .int 0, .null]) (C := RM) (T := TM) (N := 3) hx hb hts inM tyM tyM_ok hown (hts _ wl_L_43) (hts _ wio_M) (hts _ win_M) hK hP hD hS hA rfl (fun j hj => by rcases (show j = 0 ∨ j = 1 ∨ j = 2 by omega) with rfl | rfl | rfl <;> rfl) (by decide) (by decide) d_L_law_8 (fun a0 H hP hD hS => ?_)
  replace hP : va_P (dC, dI) vwCl [(h0, .inr (0, [.ref h1, .ref h2, .int (nI 1024), .int (nI 1)])), (h1, .inl (cA, 512, .inl M)), (h2, .inl (cB, 512, .inl S)), (a0, .inr (1, [.int 0, .int 0, .null]))] H := hP
  replace hD : va_D (fun q : Nat => s.heap.size ≤ q) [(h0, .inr (0, [.ref h1, .ref h2, .int (nI 1024), .int (nI 1)])), (h1, .inl (cA, 512, .inl M)), (h2, .inl (cB, 512, .inl S)), (a0, .inr (1, [.int 0, .int 0, .null]))] := hD
  refine W.widen (k := 4) (n := 1031) (by decide) (by decide) ?_
  refine lv_dup hx hb d_L_law_11 rfl ?_
  refine cc_I (wc := [(a0, .inr (1, [.int 0, .int 0, .null]))]) (wr := [(h0, .inr (0, [.ref h1, .ref h2, .int (nI 1024), .int (nI 1)])), (h1, .inl (cA, 512, .inl M)), (h2, .inl (cB, 512, .inl S))]) (tys' := []) ⟨hx, hb, hml, hown, hts⟩ hP hD hK hS hA [3] [0, 1, 2] [] rfl rfl rfl (by decide) (by decide) (by decide) rfl (cM_init l dC dI a0 _) (cwI 0 hts g_L_45 rfl rfl rfl (hts _ win_M) (hts _ wl_L_45) (hts _ wim_M_init) rfl (by decide +kernel) ⟨Nat.le_of_ble_eq_true rfl, Nat.le_of_ble_eq_true rfl⟩) rfl hl.1 rfl (Nat.le_of_ble_eq_true rfl) d_L_law_12 ⟨Nat.le_of_ble_eq_true rfl, Nat.le_of_ble_eq_true rfl⟩ (fun u H locs hw hK hP hD hS => ?_)
  obtain ⟨a1, cM, F⟩ := u
  dsimp only at hw hK hP hD
  replace hK : va_K (dC, dI) vwCl [(cA, .int), (cB, .int), (cM, .boolean)] s := hK
  replace hP : va_P (dC, dI) vwCl [(h0, .inr (0, [.ref h1, .ref h2, .int (nI 1024), .int (nI 1)])), (h1, .inl (cA, 512, .inl M)), (h2, .inl (cB, 512, .inl S)), (a0, .inr (1, [.int 0, .int (nI 1024), .ref a1])), (a1, .inl (cM, 16385, .inl F))] H := hP
  replace hD : va_D (fun q : Nat => s.heap.size ≤ q) [(h0, .inr (0, [.ref h1, .ref h2, .int (nI 1024), .int (nI 1)])), (h1, .inl (cA, 512, .inl M)), (h2, .inl (cB, 512, .inl S)), (a0, .inr (1, [.int 0, .int (nI 1024), .ref a1])), (a1, .inl (cM, 16385, .inl F))] := hD
  refine W.widen (k := 5) (n := 17416) (by decide) (by decide) ?_
  refine lv_astore_n (lv' := [(2, .ref a0), (1, .ref h0), (0, .ref b)]) hx hb d_L_law_15 rfl hl (by decide) rfl (fun ls hl => ?_)
  refine lv_iconst (v := nI 1) hx hb d_L_law_16 (by decide) ?_
  refine va_newa (atype := .long) (N' := 1) (a0 := (1, .inr (.inl (fun _ => 0)))) (ty := .long) (n := nI 1) hx hb (hts _ wac_long) rfl hK hP hD hS hA (fun _ => rfl) (by decide) (by decide) (by decide) (by decide) (by decide) d_L_law_17 (fun o0 cO H hK hP hD hS => ?_)
  replace hK : va_K (dC, dI) vwCl [(cA, .int), (cB, .int), (cM, .boolean), (cO, .long)] s := hK
  replace hP : va_P (dC, dI) vwCl [(h0, .inr (0, [.ref h1, .ref h2, .int (nI 1024), .int (nI 1)])), (h1, .inl (cA, 512, .inl M)), (h2, .inl (cB, 512, .inl S)), (a0, .inr (1, [.int 0, .int (nI 1024), .ref a1])), (a1, .inl (cM, 16385, .inl F)), (o0, .inl (cO, 1, .inr (.inl (fun _ => 0))))] H := hP
  replace hD : va_D (fun q : Nat => s.heap.size ≤ q) [(h0, .inr (0, [.ref h1, .ref h2, .int (nI 1024), .int (nI 1)])), (h1, .inl (cA, 512, .inl M)), (h2, .inl (cB, 512, .inl S)), (a0, .inr (1, [.int 0, .int (nI 1024), .ref a1])), (a1, .inl (cM, 16385, .inl F)), (o0, .inl (cO, 1, .inr (.inl (fun _ => 0))))] := hD
  refine lv_astore_n (lv' := [(3, .ref o0), (2, .ref a0), (1, .ref h0), (0, .ref b)]) hx hb d_L_law_19 rfl hl (by decide) rfl (fun ls hl => ?_)
  refine lv_iconst (v := nI 0) hx hb d_L_law_20 (by decide) ?_
  refine lv_istore (lv' := [(4, .int (nI 0)), (3, .ref o0), (2, .ref a0), (1, .ref h0), (0, .ref b)]) hx hb d_L_law_21 hl (by decide) rfl (fun ls hl => ?_)
  replace hP := hP.sub (ws' := [(h0, .inr (0, [.ref h1, .ref h2, .int (nI 1024), .int (nI 1)])), (h1, .inl (cA, 512, .inl M)), (h2, .inl (cB, 512, .inl S)), (o0, .inl (cO, 1, .inr (.inl (fun _ => 0)))), (a0, .inr (1, [.int 0, .int (nI 1024), .ref a1])), (a1, .inl (cM, 16385, .inl F))]) [0, 1, 2, 5, 3, 4] rfl
  replace hD := hD.sub (ws' := [(h0, .inr (0, [.ref h1, .ref h2, .int (nI 1024), .int (nI 1)])), (h1, .inl (cA, 512, .inl M)), (h2, .inl (cB, 512, .inl S)), (o0, .inl (cO, 1, .inr (.inl (fun _ => 0)))), (a0, .inr (1, [.int 0, .int (nI 1024), .ref a1])), (a1, .inl (cM, 16385, .inl F))]) [0, 1, 2, 5, 3, 4] (by decide) rfl
  have hF0 : MF F (fun j => decide (j = 0 ∨ j = 1024)) := hw
  have hR0 : zR 1024 (zm M) (fun j => decide (j = 0 ∨ j = 1024)) := ⟨fun j hj => by (rw [hM0 j (by omega)]; exact decide_eq_decide.mpr ⟨fun q => by omega, fun q => by omega⟩), rfl⟩
  exact law_loop l hlt hL C0 hK 513 0 1024 1 M S (fun _ => 0) 0 F (fun j => decide (j = 0 ∨ j = 1024)) (by omega) (by omega) g0 hF0 hR0 _ _ _ _ (by decide) (by decide) hP hD hS ls (lv_sub hl [4, 3, 2, 1, 0] rfl)
