set_option maxHeartbeats 40000000 in
set_option maxRecDepth 100000 in
/-- THE LAW'S LOOP: at its head, with t calls done, class and reference hold the same row -/
theorem law_loop {p : Program} {e : Env} {s : State} {m : MethodId} {below : List Frame} {meth : Method} {c : Code} (l : Launch) (hlt : l.stackTraces = false) {b L : Nat} {xs : Nat → Int32} (hL : L ≤ 1536) (C0 : lw_At p s m meth c b L xs) {dC : Nat → ClassId} {dI : Nat → Nat → Nat} {h0 h1 h2 o0 a0 a1 : Nat} {cA cB cO cM : ClassId} (hK : va_K (dC, dI) vwCl [(cA, .int), (cB, .int), (cM, .boolean), (cO, .long)] s) :
    ∀ (f t nn pp : Nat) (M S : Nat → Int32) (fo : Nat → Int64) (th : Int32) (F : Nat → Int32) (G : Nat → Bool), t ≤ 512 → t + f = 513 → zCI nn pp M S → MF F G → zR nn (zm M) G → ∀ (H : Heap) (locs : List Loc) (cs sl : Nat), cs ≤ 6 + 2 * t → sl ≤ 17417 + 12 * t →
      va_P (dC, dI) vwCl [(h0, .inr (0, [.ref h1, .ref h2, .int (nI nn), .int (nI pp)])), (h1, .inl (cA, 512, .inl M)), (h2, .inl (cB, 512, .inl S)), (o0, .inl (cO, 1, .inr (.inl fo))), (a0, .inr (1, [.int th, .int (nI nn), .ref a1])), (a1, .inl (cM, 16385, .inl F))] H → va_D (fun q : Nat => s.heap.size ≤ q) [(h0, .inr (0, [.ref h1, .ref h2, .int (nI nn), .int (nI pp)])), (h1, .inl (cA, 512, .inl M)), (h2, .inl (cB, 512, .inl S)), (o0, .inl (cO, 1, .inr (.inl fo))), (a0, .inr (1, [.int th, .int (nI nn), .ref a1])), (a1, .inl (cM, 16385, .inl F))] → va_S (fun q : Nat => s.heap.size ≤ q) s.heap H locs → ∀ (ls : Array Slot), lv_has ls 7 [(0, .ref b), (1, .ref h0), (2, .ref a0), (3, .ref o0), (4, .int (nI (3 * t)))] → W p l e room_1 s m #[Value.ref b] below meth c H locs cs sl (lw_Z below #[Value.ref b] s) (F0 m 23 ls []) := by
  obtain ⟨hx, hb, hr, hml, hown0, hts0, hX, hbl, hlocks, hgv⟩ := id C0
  have hown : s.vm.findClass RL = some m.cls := hown0
  have hts : ∀ w ∈ zAll, w.before #[Value.ref b] s = true := fun w h => hts0 w (List.mem_filter.mp h).1
  have hZ := zThr_0 hts0 hgv
  have hA : ∀ q : Nat, s.heap.size ≤ q → (fun q : Nat => s.heap.size ≤ q) q := fun _ h => h
  have hbA : ¬ (fun q : Nat => s.heap.size ≤ q) b := Nat.not_le.mpr hbl
  intro f
  induction f with
  | zero => intro t nn pp M S fo th F G h1 h2; exact absurd h2 (by omega)
  | succ f ih =>
    intro t nn pp M S fo th F G ht hf g0 hF gR H locs cs sl hcs hsl hP hD hS ls hl
    obtain ⟨i1, i2, i3, i4, i5, i6⟩ := id g0
    have gG0 : G 0 = true := by (rw [gR.1 0 (by omega)]; exact i3)
    refine lv_iload hx hb d_L_law_23 (lv_at hl 4 rfl) ?_
    refine lv_aload_n hx hb d_L_law_25 rfl (lv_at hl 0 rfl) ?_
    refine va_slen hx hb hX hbl hbA hS d_L_law_26 ?_
    refine lv_iconst (v := nI 3) hx hb d_L_law_27 (by decide) ?_
    refine lv_isub hx hb d_L_law_28 ?_
    refine lv_icmp_gt (tgt := 610) hx hb d_L_law_29 (by decide) (fun c1 => ?_) (fun c1 => ?_)
    · refine lv_iconst (v := nI 1) hx hb d_L_law_610 (by decide) ?_
      refine va_forget (fun q hq => hS.2.2 q hq) ?_
      refine W.widen (k := 1035) (n := 25639) (by omega) (by omega) ?_
      exact lw_ret hx hb hr hlocks d_L_law_611
    · have hlt3 : 3 * t + 3 ≤ L := z_l3 c1 (by omega) (by omega)
      refine lv_aload_n hx hb d_L_law_32 rfl (lv_at hl 0 rfl) ?_
      refine lv_iload hx hb d_L_law_33 (lv_at hl 4 rfl) ?_
      refine va_sld hx hb hX hbl hbA hS (vp_in_nI (by omega) (by omega)) d_L_law_35 ?_
      refine lv_topi (nm_r (show _ = xs (3 * t) from by rw [nI_clamp (by omega)]) ?_)
      refine lv_bipush (v := nI 15) hx hb d_L_law_36 (by decide) ?_
      refine lv_iand hx hb d_L_law_38 ?_
      obtain ⟨op, op1, op2⟩ := pk_andE (xs (3 * t)) (m := nI 15) 4 (by decide)
      refine lv_topi (nm_r (show _ = nI op from op2) ?_)
      rcases (show op = 0 ∨ op = 1 ∨ op = 2 ∨ op = 3 ∨ op = 4 ∨ op = 5 ∨ op = 6 ∨ op = 7 ∨ op = 8 ∨ 9 ≤ op by omega) with rfl | rfl | rfl | rfl | rfl | rfl | rfl | rfl | rfl | h9
      · refine lv_tableIn (tgt := 88) (off := 49) hx hb d_L_law_39 (by decide) (by decide) (by decide) (by decide) ?_
        refine lv_aload_n hx hb d_L_law_88 rfl (lv_at hl 1 rfl) ?_
        refine lv_aload_n hx hb d_L_law_89 rfl (lv_at hl 0 rfl) ?_
        refine lv_iload hx hb d_L_law_90 (lv_at hl 4 rfl) ?_
        refine lv_iconst (v := nI 1) hx hb d_L_law_92 (by decide) ?_
        refine lv_iadd hx hb d_L_law_93 ?_
        refine lv_topi (nm_r (show _ = nI ((3 * t) + 1) from nI_add _ _) ?_)
        refine va_sld hx hb hX hbl hbA hS (vp_in_nI (by omega) (by omega)) d_L_law_94 ?_
        refine lv_topi (nm_r (show _ = xs ((3 * t) + 1) from by rw [nI_clamp (by omega)]) ?_)
        refine lv_aload_n hx hb d_L_law_95 rfl (lv_at hl 3 rfl) ?_
        refine cw_Si (wc := [(h0, .inr (0, [.ref h1, .ref h2, .int (nI nn), .int (nI pp)])), (h1, .inl (cA, 512, .inl M)), (h2, .inl (cB, 512, .inl S)), (o0, .inl (cO, 1, .inr (.inl fo)))]) (wr := [(a0, .inr (1, [.int th, .int (nI nn), .ref a1])), (a1, .inl (cM, 16385, .inl F))]) (tys' := [(cA, .int), (cB, .int), (cO, .long)]) ⟨hx, hb, hml, hown, hts⟩ hP hD hK hS hA hZ [0, 1, 2, 3] [4, 5] [0, 1, 3] rfl rfl rfl (by decide) (by decide) (by decide) rfl (cL_space l hlt dC dI h0 h1 h2 o0 cA cB cO _ M S nn pp fo g0 (xs (3 * t + 1))) (vx_cwSW 3 hts g_L_46 rfl rfl rfl (by decide +kernel) ⟨Nat.le_of_ble_eq_true rfl, Nat.le_of_ble_eq_true rfl⟩) rfl hl.1 rfl (Nat.le_of_ble_eq_true rfl) d_L_law_96 ⟨by show cs + 1 ≤ 1035; omega, by show sl + 6 ≤ 25639; omega⟩ (fun kv u H locs hw hP hD hS => ?_)
        obtain ⟨⟨n2, p2, M2, S2⟩, fo2⟩ := u
        replace hP : va_P (dC, dI) vwCl [(a0, .inr (1, [.int th, .int (nI nn), .ref a1])), (a1, .inl (cM, 16385, .inl F)), (h0, .inr (0, [.ref h1, .ref h2, .int (nI n2), .int (nI p2)])), (h1, .inl (cA, 512, .inl M2)), (h2, .inl (cB, 512, .inl S2)), (o0, .inl (cO, 1, .inr (.inl fo2)))] H := hP
        replace hD : va_D (fun q : Nat => s.heap.size ≤ q) [(a0, .inr (1, [.int th, .int (nI nn), .ref a1])), (a1, .inl (cM, 16385, .inl F)), (h0, .inr (0, [.ref h1, .ref h2, .int (nI n2), .int (nI p2)])), (h1, .inl (cA, 512, .inl M2)), (h2, .inl (cB, 512, .inl S2)), (o0, .inl (cO, 1, .inr (.inl fo2)))] := hD
        refine lv_istore (lv' := [(5, .int kv), (0, .ref b), (1, .ref h0), (2, .ref a0), (3, .ref o0), (4, .int (nI (3 * t)))]) hx hb d_L_law_99 hl (by decide) rfl (fun ls hl => ?_)
        refine lv_aload_n hx hb d_L_law_101 rfl (lv_at hl 3 rfl) ?_
        refine lv_aload_n hx hb d_L_law_102 rfl (lv_at hl 1 rfl) ?_
        refine lv_iload hx hb d_L_law_103 (lv_at hl 5 rfl) ?_
        refine lv_iconst (v := nI 1) hx hb d_L_law_105 (by decide) ?_
        refine lv_iadd hx hb d_L_law_106 ?_
        refine lv_topi (nm_r (show _ = nI ((3 * t) + 1) from nI_add _ _) ?_)
        refine va_sld hx hb hX hbl hbA hS (vp_in_nI (by omega) (by omega)) d_L_law_107 ?_
        refine lv_topi (nm_r (show _ = xs ((3 * t) + 1) from by rw [nI_clamp (by omega)]) ?_)
        refine cc_Vi (wc := [(a0, .inr (1, [.int th, .int (nI nn), .ref a1])), (a1, .inl (cM, 16385, .inl F))]) (wr := [(h0, .inr (0, [.ref h1, .ref h2, .int (nI n2), .int (nI p2)])), (h1, .inl (cA, 512, .inl M2)), (h2, .inl (cB, 512, .inl S2)), (o0, .inl (cO, 1, .inr (.inl fo2)))]) (tys' := [(cM, .boolean)]) ⟨hx, hb, hml, hown, hts⟩ hP hD hK hS hA [0, 1] [2, 3, 4, 5] [2] rfl rfl rfl (by decide) (by decide) (by decide) rfl (cM_space l dC dI a0 a1 cM _ F G nn th hF (xs (3 * t + 1)) i2 gG0 gR.2) (cwV 1 hts g_L_51 rfl rfl rfl (by decide +kernel) ⟨Nat.le_of_ble_eq_true rfl, Nat.le_of_ble_eq_true rfl⟩) 0 1 rfl rfl rfl rfl hl.1 rfl (Nat.le_of_ble_eq_true rfl) d_L_law_108 ⟨by show cs + 1 + 0 ≤ 1035; omega, by show sl + 6 + 0 ≤ 25639; omega⟩ (fun rm_ v H locs hv hP hD hS => ?_)
        obtain ⟨b2, n3, F2, G2⟩ := v
        obtain ⟨hF2, hv⟩ := hv
        dsimp only at hF2 hv
        replace hP : va_P (dC, dI) vwCl [(h0, .inr (0, [.ref h1, .ref h2, .int (nI n2), .int (nI p2)])), (h1, .inl (cA, 512, .inl M2)), (h2, .inl (cB, 512, .inl S2)), (o0, .inl (cO, 1, .inr (.inl fo2))), (a0, .inr (1, [.int (zv (!b2)), .int (nI n3), .ref a1])), (a1, .inl (cM, 16385, .inl F2))] H := hP
        replace hD : va_D (fun q : Nat => s.heap.size ≤ q) [(h0, .inr (0, [.ref h1, .ref h2, .int (nI n2), .int (nI p2)])), (h1, .inl (cA, 512, .inl M2)), (h2, .inl (cB, 512, .inl S2)), (o0, .inl (cO, 1, .inr (.inl fo2))), (a0, .inr (1, [.int (zv (!b2)), .int (nI n3), .ref a1])), (a1, .inl (cM, 16385, .inl F2))] := hD
        have hT := tie_space g0 gR hw hv
        obtain ⟨g2, en, gR2, hres⟩ := hT
        dsimp only at g2 en gR2 hres
        subst en
        replace hP : va_P (dC, dI) vwCl [(h0, .inr (0, [.ref h1, .ref h2, .int (nI n2), .int (nI p2)])), (h1, .inl (cA, 512, .inl M2)), (h2, .inl (cB, 512, .inl S2)), (o0, .inl (cO, 1, .inr (.inl fo2))), (a0, .inr (1, [.int (zv (!b2)), .int (nI n2), .ref a1])), (a1, .inl (cM, 16385, .inl F2))] H := hP
        replace hD : va_D (fun q : Nat => s.heap.size ≤ q) [(h0, .inr (0, [.ref h1, .ref h2, .int (nI n2), .int (nI p2)])), (h1, .inl (cA, 512, .inl M2)), (h2, .inl (cB, 512, .inl S2)), (o0, .inl (cO, 1, .inr (.inl fo2))), (a0, .inr (1, [.int (zv (!b2)), .int (nI n2), .ref a1])), (a1, .inl (cM, 16385, .inl F2))] := hD
        refine lv_istore (lv' := [(6, .int rm_), (5, .int kv), (0, .ref b), (1, .ref h0), (2, .ref a0), (3, .ref o0), (4, .int (nI (3 * t)))]) hx hb d_L_law_111 hl (by decide) rfl (fun ls hl => ?_)
        refine lv_aload_n hx hb d_L_law_113 rfl (lv_at hl 4 rfl) ?_
        refine cc_Vi (wc := [(a0, .inr (1, [.int (zv (!b2)), .int (nI n2), .ref a1])), (a1, .inl (cM, 16385, .inl F2))]) (wr := [(h0, .inr (0, [.ref h1, .ref h2, .int (nI n2), .int (nI p2)])), (h1, .inl (cA, 512, .inl M2)), (h2, .inl (cB, 512, .inl S2)), (o0, .inl (cO, 1, .inr (.inl fo2)))]) (tys' := [(cM, .boolean)]) ⟨hx, hb, hml, hown, hts⟩ hP hD hK hS hA [4, 5] [0, 1, 2, 3] [2] rfl rfl rfl (by decide) (by decide) (by decide) rfl (cM_thrown l dC dI a0 a1 cM _ F2 G2 n2 (zv (!b2)) hF2) (cwV 0 hts g_L_52 rfl rfl rfl (by decide +kernel) ⟨Nat.le_of_ble_eq_true rfl, Nat.le_of_ble_eq_true rfl⟩) 0 1 rfl rfl rfl rfl hl.1 rfl (Nat.le_of_ble_eq_true rfl) d_L_law_114 ⟨by show cs + 1 + 0 + 0 ≤ 1035; omega, by show sl + 6 + 0 + 0 ≤ 25639; omega⟩ (fun rt v H locs hv2 hP hD hS => ?_)
        subst hv2
        replace hP : va_P (dC, dI) vwCl [(h0, .inr (0, [.ref h1, .ref h2, .int (nI n2), .int (nI p2)])), (h1, .inl (cA, 512, .inl M2)), (h2, .inl (cB, 512, .inl S2)), (o0, .inl (cO, 1, .inr (.inl fo2))), (a0, .inr (1, [.int (zv (!b2)), .int (nI n2), .ref a1])), (a1, .inl (cM, 16385, .inl F2))] H := hP
        replace hD : va_D (fun q : Nat => s.heap.size ≤ q) [(h0, .inr (0, [.ref h1, .ref h2, .int (nI n2), .int (nI p2)])), (h1, .inl (cA, 512, .inl M2)), (h2, .inl (cB, 512, .inl S2)), (o0, .inl (cO, 1, .inr (.inl fo2))), (a0, .inr (1, [.int (zv (!b2)), .int (nI n2), .ref a1])), (a1, .inl (cM, 16385, .inl F2))] := hD
        rcases hres with ⟨rfl, rfl, eo⟩ | ⟨rfl, rfl⟩
        · refine lv_iload hx hb d_L_law_117 (lv_at hl 1 rfl) ?_
          refine lv_icmp_eq (tgt := 124) hx hb d_L_law_119 (by decide) (fun c3 => ?_) (fun c3 => ?_)
          · refine lv_iload hx hb d_L_law_124 (lv_at hl 1 rfl) ?_
            refine lv_if_ne (tgt := 141) hx hb d_L_law_126 (by decide) (fun c4 => ?_) (fun c4 => ?_)
            · replace c4 : ¬ (0 = 0) := fun h9 => c4 ((nI_eq (a := 0) (b := 0) (by omega) (by omega)).mpr h9)
              exact absurd rfl c4
            · replace c4 : 0 = 0 := (nI_eq (a := 0) (b := 0) (by omega) (by omega)).mp c4
              refine lv_aload_n hx hb d_L_law_129 rfl (lv_at hl 5 rfl) ?_
              refine lv_iconst (v := nI 0) hx hb d_L_law_130 (by decide) ?_
              refine va_lald hx hb hK hP 3 3 rfl rfl (vp_in_nI (by omega) (by decide)) d_L_law_131 ?_
              rw [nI_clamp (by omega)]
              refine lv_iload hx hb d_L_law_132 (lv_at hl 0 rfl) ?_
              refine lv_i2l (v := rm_.toInt64) hx hb d_L_law_134 rfl ?_
              refine W.lcmp hx hb d_L_law_135 ?_
              refine lv_if_eq (tgt := 141) hx hb d_L_law_136 (by decide) (fun c5 => ?_) (fun c5 => ?_)
              · refine lv_goto (tgt := 604) hx hb d_L_law_141 (by decide) ?_
                refine lv_iinc (v := nI ((3 * t) + 3)) (lv' := [(4, .int (nI ((3 * t) + 3))), (6, .int rm_), (5, .int (nI 0)), (0, .ref b), (1, .ref h0), (2, .ref a0), (3, .ref o0)]) hx hb d_L_law_604 hl (k := 6) rfl (nI_add _ _) (by decide) rfl (fun ls hl => ?_)
                refine lv_goto (tgt := 23) hx hb d_L_law_607 (by decide) ?_
                exact ih (t + 1) n2 p2 M2 S2 fo2 (zv (!true)) F2 G2 (by omega) (by omega) g2 hF2 gR2 _ _ _ _ (by omega) (by omega) hP hD hS ls (lv_sub hl [3, 4, 5, 6, 0] rfl)
              · exact absurd (by (rw [eo]; exact z_cmp _)) c5
          · exact absurd rfl c3
        · refine lv_iload hx hb d_L_law_117 (lv_at hl 1 rfl) ?_
          refine lv_icmp_eq (tgt := 124) hx hb d_L_law_119 (by decide) (fun c3 => ?_) (fun c3 => ?_)
          · refine lv_iload hx hb d_L_law_124 (lv_at hl 1 rfl) ?_
            refine lv_if_ne (tgt := 141) hx hb d_L_law_126 (by decide) (fun c4 => ?_) (fun c4 => ?_)
            · replace c4 : ¬ (1 = 0) := fun h9 => c4 ((nI_eq (a := 1) (b := 0) (by omega) (by omega)).mpr h9)
              refine lv_goto (tgt := 604) hx hb d_L_law_141 (by decide) ?_
              refine lv_iinc (v := nI ((3 * t) + 3)) (lv' := [(4, .int (nI ((3 * t) + 3))), (6, .int rm_), (5, .int (nI 1)), (0, .ref b), (1, .ref h0), (2, .ref a0), (3, .ref o0)]) hx hb d_L_law_604 hl (k := 6) rfl (nI_add _ _) (by decide) rfl (fun ls hl => ?_)
              refine lv_goto (tgt := 23) hx hb d_L_law_607 (by decide) ?_
              exact ih (t + 1) n2 p2 M2 S2 fo2 (zv (!false)) F2 G2 (by omega) (by omega) g2 hF2 gR2 _ _ _ _ (by omega) (by omega) hP hD hS ls (lv_sub hl [3, 4, 5, 6, 0] rfl)
            · replace c4 : 1 = 0 := (nI_eq (a := 1) (b := 0) (by omega) (by omega)).mp c4
              exact absurd c4 (by decide)
          · exact absurd rfl c3
      · refine lv_tableIn (tgt := 144) (off := 105) hx hb d_L_law_39 (by decide) (by decide) (by decide) (by decide) ?_
        refine lv_aload_n hx hb d_L_law_144 rfl (lv_at hl 1 rfl) ?_
        refine lv_aload_n hx hb d_L_law_145 rfl (lv_at hl 0 rfl) ?_
        refine lv_iload hx hb d_L_law_146 (lv_at hl 4 rfl) ?_
        refine lv_iconst (v := nI 1) hx hb d_L_law_148 (by decide) ?_
        refine lv_iadd hx hb d_L_law_149 ?_
        refine lv_topi (nm_r (show _ = nI ((3 * t) + 1) from nI_add _ _) ?_)
        refine va_sld hx hb hX hbl hbA hS (vp_in_nI (by omega) (by omega)) d_L_law_150 ?_
        refine lv_topi (nm_r (show _ = xs ((3 * t) + 1) from by rw [nI_clamp (by omega)]) ?_)
        refine lv_aload_n hx hb d_L_law_151 rfl (lv_at hl 3 rfl) ?_
        refine cw_Si (wc := [(h0, .inr (0, [.ref h1, .ref h2, .int (nI nn), .int (nI pp)])), (h1, .inl (cA, 512, .inl M)), (h2, .inl (cB, 512, .inl S)), (o0, .inl (cO, 1, .inr (.inl fo)))]) (wr := [(a0, .inr (1, [.int th, .int (nI nn), .ref a1])), (a1, .inl (cM, 16385, .inl F))]) (tys' := [(cA, .int), (cB, .int), (cO, .long)]) ⟨hx, hb, hml, hown, hts⟩ hP hD hK hS hA hZ [0, 1, 2, 3] [4, 5] [0, 1, 3] rfl rfl rfl (by decide) (by decide) (by decide) rfl (cL_cut l hlt dC dI h0 h1 h2 o0 cA cB cO _ M S nn pp fo g0 (xs (3 * t + 1))) (vx_cwSW 3 hts g_L_56 rfl rfl rfl (by decide +kernel) ⟨Nat.le_of_ble_eq_true rfl, Nat.le_of_ble_eq_true rfl⟩) rfl hl.1 rfl (Nat.le_of_ble_eq_true rfl) d_L_law_152 ⟨by show cs + 1 ≤ 1035; omega, by show sl + 6 ≤ 25639; omega⟩ (fun kv u H locs hw hP hD hS => ?_)
        obtain ⟨⟨n2, p2, M2, S2⟩, fo2⟩ := u
        replace hP : va_P (dC, dI) vwCl [(a0, .inr (1, [.int th, .int (nI nn), .ref a1])), (a1, .inl (cM, 16385, .inl F)), (h0, .inr (0, [.ref h1, .ref h2, .int (nI n2), .int (nI p2)])), (h1, .inl (cA, 512, .inl M2)), (h2, .inl (cB, 512, .inl S2)), (o0, .inl (cO, 1, .inr (.inl fo2)))] H := hP
        replace hD : va_D (fun q : Nat => s.heap.size ≤ q) [(a0, .inr (1, [.int th, .int (nI nn), .ref a1])), (a1, .inl (cM, 16385, .inl F)), (h0, .inr (0, [.ref h1, .ref h2, .int (nI n2), .int (nI p2)])), (h1, .inl (cA, 512, .inl M2)), (h2, .inl (cB, 512, .inl S2)), (o0, .inl (cO, 1, .inr (.inl fo2)))] := hD
        refine lv_istore (lv' := [(5, .int kv), (0, .ref b), (1, .ref h0), (2, .ref a0), (3, .ref o0), (4, .int (nI (3 * t)))]) hx hb d_L_law_155 hl (by decide) rfl (fun ls hl => ?_)
        refine lv_aload_n hx hb d_L_law_157 rfl (lv_at hl 3 rfl) ?_
        refine lv_aload_n hx hb d_L_law_158 rfl (lv_at hl 1 rfl) ?_
        refine lv_iload hx hb d_L_law_159 (lv_at hl 5 rfl) ?_
        refine lv_iconst (v := nI 1) hx hb d_L_law_161 (by decide) ?_
        refine lv_iadd hx hb d_L_law_162 ?_
        refine lv_topi (nm_r (show _ = nI ((3 * t) + 1) from nI_add _ _) ?_)
        refine va_sld hx hb hX hbl hbA hS (vp_in_nI (by omega) (by omega)) d_L_law_163 ?_
        refine lv_topi (nm_r (show _ = xs ((3 * t) + 1) from by rw [nI_clamp (by omega)]) ?_)
        refine cc_Vi (wc := [(a0, .inr (1, [.int th, .int (nI nn), .ref a1])), (a1, .inl (cM, 16385, .inl F))]) (wr := [(h0, .inr (0, [.ref h1, .ref h2, .int (nI n2), .int (nI p2)])), (h1, .inl (cA, 512, .inl M2)), (h2, .inl (cB, 512, .inl S2)), (o0, .inl (cO, 1, .inr (.inl fo2)))]) (tys' := [(cM, .boolean)]) ⟨hx, hb, hml, hown, hts⟩ hP hD hK hS hA [0, 1] [2, 3, 4, 5] [2] rfl rfl rfl (by decide) (by decide) (by decide) rfl (cM_cut l dC dI a0 a1 cM _ F G nn th hF (xs (3 * t + 1)) i2 gG0 gR.2) (cwV 1 hts g_L_58 rfl rfl rfl (by decide +kernel) ⟨Nat.le_of_ble_eq_true rfl, Nat.le_of_ble_eq_true rfl⟩) 0 1 rfl rfl rfl rfl hl.1 rfl (Nat.le_of_ble_eq_true rfl) d_L_law_164 ⟨by show cs + 1 + 0 ≤ 1035; omega, by show sl + 6 + 0 ≤ 25639; omega⟩ (fun rm_ v H locs hv hP hD hS => ?_)
        obtain ⟨b2, F2, G2⟩ := v
        obtain ⟨hF2, hv⟩ := hv
        dsimp only at hF2 hv
        replace hP : va_P (dC, dI) vwCl [(h0, .inr (0, [.ref h1, .ref h2, .int (nI n2), .int (nI p2)])), (h1, .inl (cA, 512, .inl M2)), (h2, .inl (cB, 512, .inl S2)), (o0, .inl (cO, 1, .inr (.inl fo2))), (a0, .inr (1, [.int (zv (!b2)), .int (nI nn), .ref a1])), (a1, .inl (cM, 16385, .inl F2))] H := hP
        replace hD : va_D (fun q : Nat => s.heap.size ≤ q) [(h0, .inr (0, [.ref h1, .ref h2, .int (nI n2), .int (nI p2)])), (h1, .inl (cA, 512, .inl M2)), (h2, .inl (cB, 512, .inl S2)), (o0, .inl (cO, 1, .inr (.inl fo2))), (a0, .inr (1, [.int (zv (!b2)), .int (nI nn), .ref a1])), (a1, .inl (cM, 16385, .inl F2))] := hD
        have hT := tie_cut g0 gR hw hv
        obtain ⟨g2, en, gR2, hres⟩ := hT
        dsimp only at g2 en gR2 hres
        subst en
        replace hP : va_P (dC, dI) vwCl [(h0, .inr (0, [.ref h1, .ref h2, .int (nI n2), .int (nI p2)])), (h1, .inl (cA, 512, .inl M2)), (h2, .inl (cB, 512, .inl S2)), (o0, .inl (cO, 1, .inr (.inl fo2))), (a0, .inr (1, [.int (zv (!b2)), .int (nI n2), .ref a1])), (a1, .inl (cM, 16385, .inl F2))] H := hP
        replace hD : va_D (fun q : Nat => s.heap.size ≤ q) [(h0, .inr (0, [.ref h1, .ref h2, .int (nI n2), .int (nI p2)])), (h1, .inl (cA, 512, .inl M2)), (h2, .inl (cB, 512, .inl S2)), (o0, .inl (cO, 1, .inr (.inl fo2))), (a0, .inr (1, [.int (zv (!b2)), .int (nI n2), .ref a1])), (a1, .inl (cM, 16385, .inl F2))] := hD
        refine lv_istore (lv' := [(6, .int rm_), (5, .int kv), (0, .ref b), (1, .ref h0), (2, .ref a0), (3, .ref o0), (4, .int (nI (3 * t)))]) hx hb d_L_law_167 hl (by decide) rfl (fun ls hl => ?_)
        refine lv_aload_n hx hb d_L_law_169 rfl (lv_at hl 4 rfl) ?_
        refine cc_Vi (wc := [(a0, .inr (1, [.int (zv (!b2)), .int (nI n2), .ref a1])), (a1, .inl (cM, 16385, .inl F2))]) (wr := [(h0, .inr (0, [.ref h1, .ref h2, .int (nI n2), .int (nI p2)])), (h1, .inl (cA, 512, .inl M2)), (h2, .inl (cB, 512, .inl S2)), (o0, .inl (cO, 1, .inr (.inl fo2)))]) (tys' := [(cM, .boolean)]) ⟨hx, hb, hml, hown, hts⟩ hP hD hK hS hA [4, 5] [0, 1, 2, 3] [2] rfl rfl rfl (by decide) (by decide) (by decide) rfl (cM_thrown l dC dI a0 a1 cM _ F2 G2 n2 (zv (!b2)) hF2) (cwV 0 hts g_L_52 rfl rfl rfl (by decide +kernel) ⟨Nat.le_of_ble_eq_true rfl, Nat.le_of_ble_eq_true rfl⟩) 0 1 rfl rfl rfl rfl hl.1 rfl (Nat.le_of_ble_eq_true rfl) d_L_law_170 ⟨by show cs + 1 + 0 + 0 ≤ 1035; omega, by show sl + 6 + 0 + 0 ≤ 25639; omega⟩ (fun rt v H locs hv2 hP hD hS => ?_)
        subst hv2
        replace hP : va_P (dC, dI) vwCl [(h0, .inr (0, [.ref h1, .ref h2, .int (nI n2), .int (nI p2)])), (h1, .inl (cA, 512, .inl M2)), (h2, .inl (cB, 512, .inl S2)), (o0, .inl (cO, 1, .inr (.inl fo2))), (a0, .inr (1, [.int (zv (!b2)), .int (nI n2), .ref a1])), (a1, .inl (cM, 16385, .inl F2))] H := hP
        replace hD : va_D (fun q : Nat => s.heap.size ≤ q) [(h0, .inr (0, [.ref h1, .ref h2, .int (nI n2), .int (nI p2)])), (h1, .inl (cA, 512, .inl M2)), (h2, .inl (cB, 512, .inl S2)), (o0, .inl (cO, 1, .inr (.inl fo2))), (a0, .inr (1, [.int (zv (!b2)), .int (nI n2), .ref a1])), (a1, .inl (cM, 16385, .inl F2))] := hD
        rcases hres with ⟨rfl, rfl, eo⟩ | ⟨rfl, rfl⟩
        · refine lv_iload hx hb d_L_law_173 (lv_at hl 1 rfl) ?_
          refine lv_icmp_eq (tgt := 180) hx hb d_L_law_175 (by decide) (fun c3 => ?_) (fun c3 => ?_)
          · refine lv_iload hx hb d_L_law_180 (lv_at hl 1 rfl) ?_
            refine lv_if_ne (tgt := 197) hx hb d_L_law_182 (by decide) (fun c4 => ?_) (fun c4 => ?_)
            · replace c4 : ¬ (0 = 0) := fun h9 => c4 ((nI_eq (a := 0) (b := 0) (by omega) (by omega)).mpr h9)
              exact absurd rfl c4
            · replace c4 : 0 = 0 := (nI_eq (a := 0) (b := 0) (by omega) (by omega)).mp c4
              refine lv_aload_n hx hb d_L_law_185 rfl (lv_at hl 5 rfl) ?_
              refine lv_iconst (v := nI 0) hx hb d_L_law_186 (by decide) ?_
              refine va_lald hx hb hK hP 3 3 rfl rfl (vp_in_nI (by omega) (by decide)) d_L_law_187 ?_
              rw [nI_clamp (by omega)]
              refine lv_iload hx hb d_L_law_188 (lv_at hl 0 rfl) ?_
              refine lv_i2l (v := rm_.toInt64) hx hb d_L_law_190 rfl ?_
              refine W.lcmp hx hb d_L_law_191 ?_
              refine lv_if_eq (tgt := 197) hx hb d_L_law_192 (by decide) (fun c5 => ?_) (fun c5 => ?_)
              · refine lv_goto (tgt := 604) hx hb d_L_law_197 (by decide) ?_
                refine lv_iinc (v := nI ((3 * t) + 3)) (lv' := [(4, .int (nI ((3 * t) + 3))), (6, .int rm_), (5, .int (nI 0)), (0, .ref b), (1, .ref h0), (2, .ref a0), (3, .ref o0)]) hx hb d_L_law_604 hl (k := 6) rfl (nI_add _ _) (by decide) rfl (fun ls hl => ?_)
                refine lv_goto (tgt := 23) hx hb d_L_law_607 (by decide) ?_
                exact ih (t + 1) n2 p2 M2 S2 fo2 (zv (!true)) F2 G2 (by omega) (by omega) g2 hF2 gR2 _ _ _ _ (by omega) (by omega) hP hD hS ls (lv_sub hl [3, 4, 5, 6, 0] rfl)
              · exact absurd (by (rw [eo]; exact z_cmp _)) c5
          · exact absurd rfl c3
        · refine lv_iload hx hb d_L_law_173 (lv_at hl 1 rfl) ?_
          refine lv_icmp_eq (tgt := 180) hx hb d_L_law_175 (by decide) (fun c3 => ?_) (fun c3 => ?_)
          · refine lv_iload hx hb d_L_law_180 (lv_at hl 1 rfl) ?_
            refine lv_if_ne (tgt := 197) hx hb d_L_law_182 (by decide) (fun c4 => ?_) (fun c4 => ?_)
            · replace c4 : ¬ (1 = 0) := fun h9 => c4 ((nI_eq (a := 1) (b := 0) (by omega) (by omega)).mpr h9)
              refine lv_goto (tgt := 604) hx hb d_L_law_197 (by decide) ?_
              refine lv_iinc (v := nI ((3 * t) + 3)) (lv' := [(4, .int (nI ((3 * t) + 3))), (6, .int rm_), (5, .int (nI 1)), (0, .ref b), (1, .ref h0), (2, .ref a0), (3, .ref o0)]) hx hb d_L_law_604 hl (k := 6) rfl (nI_add _ _) (by decide) rfl (fun ls hl => ?_)
              refine lv_goto (tgt := 23) hx hb d_L_law_607 (by decide) ?_
              exact ih (t + 1) n2 p2 M2 S2 fo2 (zv (!false)) F2 G2 (by omega) (by omega) g2 hF2 gR2 _ _ _ _ (by omega) (by omega) hP hD hS ls (lv_sub hl [3, 4, 5, 6, 0] rfl)
            · replace c4 : 1 = 0 := (nI_eq (a := 1) (b := 0) (by omega) (by omega)).mp c4
              exact absurd c4 (by decide)
          · exact absurd rfl c3
      · refine lv_tableIn (tgt := 200) (off := 161) hx hb d_L_law_39 (by decide) (by decide) (by decide) (by decide) ?_
        refine lv_aload_n hx hb d_L_law_200 rfl (lv_at hl 1 rfl) ?_
        refine lv_aload_n hx hb d_L_law_201 rfl (lv_at hl 0 rfl) ?_
        refine lv_iload hx hb d_L_law_202 (lv_at hl 4 rfl) ?_
        refine lv_iconst (v := nI 1) hx hb d_L_law_204 (by decide) ?_
        refine lv_iadd hx hb d_L_law_205 ?_
        refine lv_topi (nm_r (show _ = nI ((3 * t) + 1) from nI_add _ _) ?_)
        refine va_sld hx hb hX hbl hbA hS (vp_in_nI (by omega) (by omega)) d_L_law_206 ?_
        refine lv_topi (nm_r (show _ = xs ((3 * t) + 1) from by rw [nI_clamp (by omega)]) ?_)
        refine lv_aload_n hx hb d_L_law_207 rfl (lv_at hl 3 rfl) ?_
        refine cw_Si (wc := [(h0, .inr (0, [.ref h1, .ref h2, .int (nI nn), .int (nI pp)])), (h1, .inl (cA, 512, .inl M)), (h2, .inl (cB, 512, .inl S)), (o0, .inl (cO, 1, .inr (.inl fo)))]) (wr := [(a0, .inr (1, [.int th, .int (nI nn), .ref a1])), (a1, .inl (cM, 16385, .inl F))]) (tys' := [(cA, .int), (cB, .int), (cO, .long)]) ⟨hx, hb, hml, hown, hts⟩ hP hD hK hS hA hZ [0, 1, 2, 3] [4, 5] [0, 1, 3] rfl rfl rfl (by decide) (by decide) (by decide) rfl (cL_join l hlt dC dI h0 h1 h2 o0 cA cB cO _ M S nn pp fo g0 (xs (3 * t + 1))) (vx_cwSW 3 hts g_L_59 rfl rfl rfl (by decide +kernel) ⟨Nat.le_of_ble_eq_true rfl, Nat.le_of_ble_eq_true rfl⟩) rfl hl.1 rfl (Nat.le_of_ble_eq_true rfl) d_L_law_208 ⟨by show cs + 1 ≤ 1035; omega, by show sl + 6 ≤ 25639; omega⟩ (fun kv u H locs hw hP hD hS => ?_)
        obtain ⟨⟨n2, p2, M2, S2⟩, fo2⟩ := u
        replace hP : va_P (dC, dI) vwCl [(a0, .inr (1, [.int th, .int (nI nn), .ref a1])), (a1, .inl (cM, 16385, .inl F)), (h0, .inr (0, [.ref h1, .ref h2, .int (nI n2), .int (nI p2)])), (h1, .inl (cA, 512, .inl M2)), (h2, .inl (cB, 512, .inl S2)), (o0, .inl (cO, 1, .inr (.inl fo2)))] H := hP
        replace hD : va_D (fun q : Nat => s.heap.size ≤ q) [(a0, .inr (1, [.int th, .int (nI nn), .ref a1])), (a1, .inl (cM, 16385, .inl F)), (h0, .inr (0, [.ref h1, .ref h2, .int (nI n2), .int (nI p2)])), (h1, .inl (cA, 512, .inl M2)), (h2, .inl (cB, 512, .inl S2)), (o0, .inl (cO, 1, .inr (.inl fo2)))] := hD
        refine lv_istore (lv' := [(5, .int kv), (0, .ref b), (1, .ref h0), (2, .ref a0), (3, .ref o0), (4, .int (nI (3 * t)))]) hx hb d_L_law_211 hl (by decide) rfl (fun ls hl => ?_)
        refine lv_aload_n hx hb d_L_law_213 rfl (lv_at hl 3 rfl) ?_
        refine lv_aload_n hx hb d_L_law_214 rfl (lv_at hl 1 rfl) ?_
        refine lv_iload hx hb d_L_law_215 (lv_at hl 5 rfl) ?_
        refine lv_iconst (v := nI 1) hx hb d_L_law_217 (by decide) ?_
        refine lv_iadd hx hb d_L_law_218 ?_
        refine lv_topi (nm_r (show _ = nI ((3 * t) + 1) from nI_add _ _) ?_)
        refine va_sld hx hb hX hbl hbA hS (vp_in_nI (by omega) (by omega)) d_L_law_219 ?_
        refine lv_topi (nm_r (show _ = xs ((3 * t) + 1) from by rw [nI_clamp (by omega)]) ?_)
        refine cc_Vi (wc := [(a0, .inr (1, [.int th, .int (nI nn), .ref a1])), (a1, .inl (cM, 16385, .inl F))]) (wr := [(h0, .inr (0, [.ref h1, .ref h2, .int (nI n2), .int (nI p2)])), (h1, .inl (cA, 512, .inl M2)), (h2, .inl (cB, 512, .inl S2)), (o0, .inl (cO, 1, .inr (.inl fo2)))]) (tys' := [(cM, .boolean)]) ⟨hx, hb, hml, hown, hts⟩ hP hD hK hS hA [0, 1] [2, 3, 4, 5] [2] rfl rfl rfl (by decide) (by decide) (by decide) rfl (cM_join l dC dI a0 a1 cM _ F G nn th hF (xs (3 * t + 1)) i2 gG0 gR.2) (cwV 1 hts g_L_61 rfl rfl rfl (by decide +kernel) ⟨Nat.le_of_ble_eq_true rfl, Nat.le_of_ble_eq_true rfl⟩) 0 1 rfl rfl rfl rfl hl.1 rfl (Nat.le_of_ble_eq_true rfl) d_L_law_220 ⟨by show cs + 1 + 0 ≤ 1035; omega, by show sl + 6 + 0 ≤ 25639; omega⟩ (fun rm_ v H locs hv hP hD hS => ?_)
        obtain ⟨b2, F2, G2⟩ := v
        obtain ⟨hF2, hv⟩ := hv
        dsimp only at hF2 hv
        replace hP : va_P (dC, dI) vwCl [(h0, .inr (0, [.ref h1, .ref h2, .int (nI n2), .int (nI p2)])), (h1, .inl (cA, 512, .inl M2)), (h2, .inl (cB, 512, .inl S2)), (o0, .inl (cO, 1, .inr (.inl fo2))), (a0, .inr (1, [.int (zv (!b2)), .int (nI nn), .ref a1])), (a1, .inl (cM, 16385, .inl F2))] H := hP
        replace hD : va_D (fun q : Nat => s.heap.size ≤ q) [(h0, .inr (0, [.ref h1, .ref h2, .int (nI n2), .int (nI p2)])), (h1, .inl (cA, 512, .inl M2)), (h2, .inl (cB, 512, .inl S2)), (o0, .inl (cO, 1, .inr (.inl fo2))), (a0, .inr (1, [.int (zv (!b2)), .int (nI nn), .ref a1])), (a1, .inl (cM, 16385, .inl F2))] := hD
        have hT := tie_join g0 gR hw hv
        obtain ⟨g2, en, gR2, hres⟩ := hT
        dsimp only at g2 en gR2 hres
        subst en
        replace hP : va_P (dC, dI) vwCl [(h0, .inr (0, [.ref h1, .ref h2, .int (nI n2), .int (nI p2)])), (h1, .inl (cA, 512, .inl M2)), (h2, .inl (cB, 512, .inl S2)), (o0, .inl (cO, 1, .inr (.inl fo2))), (a0, .inr (1, [.int (zv (!b2)), .int (nI n2), .ref a1])), (a1, .inl (cM, 16385, .inl F2))] H := hP
        replace hD : va_D (fun q : Nat => s.heap.size ≤ q) [(h0, .inr (0, [.ref h1, .ref h2, .int (nI n2), .int (nI p2)])), (h1, .inl (cA, 512, .inl M2)), (h2, .inl (cB, 512, .inl S2)), (o0, .inl (cO, 1, .inr (.inl fo2))), (a0, .inr (1, [.int (zv (!b2)), .int (nI n2), .ref a1])), (a1, .inl (cM, 16385, .inl F2))] := hD
        refine lv_istore (lv' := [(6, .int rm_), (5, .int kv), (0, .ref b), (1, .ref h0), (2, .ref a0), (3, .ref o0), (4, .int (nI (3 * t)))]) hx hb d_L_law_223 hl (by decide) rfl (fun ls hl => ?_)
        refine lv_aload_n hx hb d_L_law_225 rfl (lv_at hl 4 rfl) ?_
        refine cc_Vi (wc := [(a0, .inr (1, [.int (zv (!b2)), .int (nI n2), .ref a1])), (a1, .inl (cM, 16385, .inl F2))]) (wr := [(h0, .inr (0, [.ref h1, .ref h2, .int (nI n2), .int (nI p2)])), (h1, .inl (cA, 512, .inl M2)), (h2, .inl (cB, 512, .inl S2)), (o0, .inl (cO, 1, .inr (.inl fo2)))]) (tys' := [(cM, .boolean)]) ⟨hx, hb, hml, hown, hts⟩ hP hD hK hS hA [4, 5] [0, 1, 2, 3] [2] rfl rfl rfl (by decide) (by decide) (by decide) rfl (cM_thrown l dC dI a0 a1 cM _ F2 G2 n2 (zv (!b2)) hF2) (cwV 0 hts g_L_52 rfl rfl rfl (by decide +kernel) ⟨Nat.le_of_ble_eq_true rfl, Nat.le_of_ble_eq_true rfl⟩) 0 1 rfl rfl rfl rfl hl.1 rfl (Nat.le_of_ble_eq_true rfl) d_L_law_226 ⟨by show cs + 1 + 0 + 0 ≤ 1035; omega, by show sl + 6 + 0 + 0 ≤ 25639; omega⟩ (fun rt v H locs hv2 hP hD hS => ?_)
        subst hv2
        replace hP : va_P (dC, dI) vwCl [(h0, .inr (0, [.ref h1, .ref h2, .int (nI n2), .int (nI p2)])), (h1, .inl (cA, 512, .inl M2)), (h2, .inl (cB, 512, .inl S2)), (o0, .inl (cO, 1, .inr (.inl fo2))), (a0, .inr (1, [.int (zv (!b2)), .int (nI n2), .ref a1])), (a1, .inl (cM, 16385, .inl F2))] H := hP
        replace hD : va_D (fun q : Nat => s.heap.size ≤ q) [(h0, .inr (0, [.ref h1, .ref h2, .int (nI n2), .int (nI p2)])), (h1, .inl (cA, 512, .inl M2)), (h2, .inl (cB, 512, .inl S2)), (o0, .inl (cO, 1, .inr (.inl fo2))), (a0, .inr (1, [.int (zv (!b2)), .int (nI n2), .ref a1])), (a1, .inl (cM, 16385, .inl F2))] := hD
        rcases hres with ⟨rfl, rfl, eo⟩ | ⟨rfl, rfl⟩
        · refine lv_iload hx hb d_L_law_229 (lv_at hl 1 rfl) ?_
          refine lv_icmp_eq (tgt := 236) hx hb d_L_law_231 (by decide) (fun c3 => ?_) (fun c3 => ?_)
          · refine lv_iload hx hb d_L_law_236 (lv_at hl 1 rfl) ?_
            refine lv_if_ne (tgt := 253) hx hb d_L_law_238 (by decide) (fun c4 => ?_) (fun c4 => ?_)
            · replace c4 : ¬ (0 = 0) := fun h9 => c4 ((nI_eq (a := 0) (b := 0) (by omega) (by omega)).mpr h9)
              exact absurd rfl c4
            · replace c4 : 0 = 0 := (nI_eq (a := 0) (b := 0) (by omega) (by omega)).mp c4
              refine lv_aload_n hx hb d_L_law_241 rfl (lv_at hl 5 rfl) ?_
              refine lv_iconst (v := nI 0) hx hb d_L_law_242 (by decide) ?_
              refine va_lald hx hb hK hP 3 3 rfl rfl (vp_in_nI (by omega) (by decide)) d_L_law_243 ?_
              rw [nI_clamp (by omega)]
              refine lv_iload hx hb d_L_law_244 (lv_at hl 0 rfl) ?_
              refine lv_i2l (v := rm_.toInt64) hx hb d_L_law_246 rfl ?_
              refine W.lcmp hx hb d_L_law_247 ?_
              refine lv_if_eq (tgt := 253) hx hb d_L_law_248 (by decide) (fun c5 => ?_) (fun c5 => ?_)
              · refine lv_goto (tgt := 604) hx hb d_L_law_253 (by decide) ?_
                refine lv_iinc (v := nI ((3 * t) + 3)) (lv' := [(4, .int (nI ((3 * t) + 3))), (6, .int rm_), (5, .int (nI 0)), (0, .ref b), (1, .ref h0), (2, .ref a0), (3, .ref o0)]) hx hb d_L_law_604 hl (k := 6) rfl (nI_add _ _) (by decide) rfl (fun ls hl => ?_)
                refine lv_goto (tgt := 23) hx hb d_L_law_607 (by decide) ?_
                exact ih (t + 1) n2 p2 M2 S2 fo2 (zv (!true)) F2 G2 (by omega) (by omega) g2 hF2 gR2 _ _ _ _ (by omega) (by omega) hP hD hS ls (lv_sub hl [3, 4, 5, 6, 0] rfl)
              · exact absurd (by (rw [eo]; exact z_cmp _)) c5
          · exact absurd rfl c3
        · refine lv_iload hx hb d_L_law_229 (lv_at hl 1 rfl) ?_
          refine lv_icmp_eq (tgt := 236) hx hb d_L_law_231 (by decide) (fun c3 => ?_) (fun c3 => ?_)
          · refine lv_iload hx hb d_L_law_236 (lv_at hl 1 rfl) ?_
            refine lv_if_ne (tgt := 253) hx hb d_L_law_238 (by decide) (fun c4 => ?_) (fun c4 => ?_)
            · replace c4 : ¬ (1 = 0) := fun h9 => c4 ((nI_eq (a := 1) (b := 0) (by omega) (by omega)).mpr h9)
              refine lv_goto (tgt := 604) hx hb d_L_law_253 (by decide) ?_
              refine lv_iinc (v := nI ((3 * t) + 3)) (lv' := [(4, .int (nI ((3 * t) + 3))), (6, .int rm_), (5, .int (nI 1)), (0, .ref b), (1, .ref h0), (2, .ref a0), (3, .ref o0)]) hx hb d_L_law_604 hl (k := 6) rfl (nI_add _ _) (by decide) rfl (fun ls hl => ?_)
              refine lv_goto (tgt := 23) hx hb d_L_law_607 (by decide) ?_
              exact ih (t + 1) n2 p2 M2 S2 fo2 (zv (!false)) F2 G2 (by omega) (by omega) g2 hF2 gR2 _ _ _ _ (by omega) (by omega) hP hD hS ls (lv_sub hl [3, 4, 5, 6, 0] rfl)
            · replace c4 : 1 = 0 := (nI_eq (a := 1) (b := 0) (by omega) (by omega)).mp c4
              exact absurd c4 (by decide)
          · exact absurd rfl c3
      · refine lv_tableIn (tgt := 256) (off := 217) hx hb d_L_law_39 (by decide) (by decide) (by decide) (by decide) ?_
        refine lv_aload_n hx hb d_L_law_256 rfl (lv_at hl 1 rfl) ?_
        refine lv_aload_n hx hb d_L_law_257 rfl (lv_at hl 0 rfl) ?_
        refine lv_iload hx hb d_L_law_258 (lv_at hl 4 rfl) ?_
        refine lv_iconst (v := nI 1) hx hb d_L_law_260 (by decide) ?_
        refine lv_iadd hx hb d_L_law_261 ?_
        refine lv_topi (nm_r (show _ = nI ((3 * t) + 1) from nI_add _ _) ?_)
        refine va_sld hx hb hX hbl hbA hS (vp_in_nI (by omega) (by omega)) d_L_law_262 ?_
        refine lv_topi (nm_r (show _ = xs ((3 * t) + 1) from by rw [nI_clamp (by omega)]) ?_)
        refine lv_aload_n hx hb d_L_law_263 rfl (lv_at hl 0 rfl) ?_
        refine lv_iload hx hb d_L_law_264 (lv_at hl 4 rfl) ?_
        refine lv_iconst (v := nI 2) hx hb d_L_law_266 (by decide) ?_
        refine lv_iadd hx hb d_L_law_267 ?_
        refine lv_topi (nm_r (show _ = nI ((3 * t) + 2) from nI_add _ _) ?_)
        refine va_sld hx hb hX hbl hbA hS (vp_in_nI (by omega) (by omega)) d_L_law_268 ?_
        refine lv_topi (nm_r (show _ = xs ((3 * t) + 2) from by rw [nI_clamp (by omega)]) ?_)
        refine lv_aload_n hx hb d_L_law_269 rfl (lv_at hl 3 rfl) ?_
        refine cw_Si (wc := [(h0, .inr (0, [.ref h1, .ref h2, .int (nI nn), .int (nI pp)])), (h1, .inl (cA, 512, .inl M)), (h2, .inl (cB, 512, .inl S)), (o0, .inl (cO, 1, .inr (.inl fo)))]) (wr := [(a0, .inr (1, [.int th, .int (nI nn), .ref a1])), (a1, .inl (cM, 16385, .inl F))]) (tys' := [(cA, .int), (cB, .int), (cO, .long)]) ⟨hx, hb, hml, hown, hts⟩ hP hD hK hS hA hZ [0, 1, 2, 3] [4, 5] [0, 1, 3] rfl rfl rfl (by decide) (by decide) (by decide) rfl (cL_make l hlt dC dI h0 h1 h2 o0 cA cB cO _ M S nn pp fo g0 (xs (3 * t + 1)) (xs (3 * t + 2))) (vx_cwSW 4 hts g_L_62 rfl rfl rfl (by decide +kernel) ⟨Nat.le_of_ble_eq_true rfl, Nat.le_of_ble_eq_true rfl⟩) rfl hl.1 rfl (Nat.le_of_ble_eq_true rfl) d_L_law_270 ⟨by show cs + 2 ≤ 1035; omega, by show sl + 12 ≤ 25639; omega⟩ (fun kv u H locs hw hP hD hS => ?_)
        obtain ⟨⟨n2, p2, M2, S2⟩, fo2⟩ := u
        replace hP : va_P (dC, dI) vwCl [(a0, .inr (1, [.int th, .int (nI nn), .ref a1])), (a1, .inl (cM, 16385, .inl F)), (h0, .inr (0, [.ref h1, .ref h2, .int (nI n2), .int (nI p2)])), (h1, .inl (cA, 512, .inl M2)), (h2, .inl (cB, 512, .inl S2)), (o0, .inl (cO, 1, .inr (.inl fo2)))] H := hP
        replace hD : va_D (fun q : Nat => s.heap.size ≤ q) [(a0, .inr (1, [.int th, .int (nI nn), .ref a1])), (a1, .inl (cM, 16385, .inl F)), (h0, .inr (0, [.ref h1, .ref h2, .int (nI n2), .int (nI p2)])), (h1, .inl (cA, 512, .inl M2)), (h2, .inl (cB, 512, .inl S2)), (o0, .inl (cO, 1, .inr (.inl fo2)))] := hD
        refine lv_istore (lv' := [(5, .int kv), (0, .ref b), (1, .ref h0), (2, .ref a0), (3, .ref o0), (4, .int (nI (3 * t)))]) hx hb d_L_law_273 hl (by decide) rfl (fun ls hl => ?_)
        refine lv_aload_n hx hb d_L_law_275 rfl (lv_at hl 3 rfl) ?_
        refine lv_aload_n hx hb d_L_law_276 rfl (lv_at hl 1 rfl) ?_
        refine lv_iload hx hb d_L_law_277 (lv_at hl 5 rfl) ?_
        refine lv_iconst (v := nI 1) hx hb d_L_law_279 (by decide) ?_
        refine lv_iadd hx hb d_L_law_280 ?_
        refine lv_topi (nm_r (show _ = nI ((3 * t) + 1) from nI_add _ _) ?_)
        refine va_sld hx hb hX hbl hbA hS (vp_in_nI (by omega) (by omega)) d_L_law_281 ?_
        refine lv_topi (nm_r (show _ = xs ((3 * t) + 1) from by rw [nI_clamp (by omega)]) ?_)
        refine lv_aload_n hx hb d_L_law_282 rfl (lv_at hl 1 rfl) ?_
        refine lv_iload hx hb d_L_law_283 (lv_at hl 5 rfl) ?_
        refine lv_iconst (v := nI 2) hx hb d_L_law_285 (by decide) ?_
        refine lv_iadd hx hb d_L_law_286 ?_
        refine lv_topi (nm_r (show _ = nI ((3 * t) + 2) from nI_add _ _) ?_)
        refine va_sld hx hb hX hbl hbA hS (vp_in_nI (by omega) (by omega)) d_L_law_287 ?_
        refine lv_topi (nm_r (show _ = xs ((3 * t) + 2) from by rw [nI_clamp (by omega)]) ?_)
        refine cc_Vi (wc := [(a0, .inr (1, [.int th, .int (nI nn), .ref a1])), (a1, .inl (cM, 16385, .inl F))]) (wr := [(h0, .inr (0, [.ref h1, .ref h2, .int (nI n2), .int (nI p2)])), (h1, .inl (cA, 512, .inl M2)), (h2, .inl (cB, 512, .inl S2)), (o0, .inl (cO, 1, .inr (.inl fo2)))]) (tys' := [(cM, .boolean)]) ⟨hx, hb, hml, hown, hts⟩ hP hD hK hS hA [0, 1] [2, 3, 4, 5] [2] rfl rfl rfl (by decide) (by decide) (by decide) rfl (cM_make l dC dI a0 a1 cM _ F G nn th hF (xs (3 * t + 1)) (xs (3 * t + 2)) i2 gG0 gR.2) (cwV 2 hts g_L_65 rfl rfl rfl (by decide +kernel) ⟨Nat.le_of_ble_eq_true rfl, Nat.le_of_ble_eq_true rfl⟩) 0 1 rfl rfl rfl rfl hl.1 rfl (Nat.le_of_ble_eq_true rfl) d_L_law_288 ⟨by show cs + 2 + 0 ≤ 1035; omega, by show sl + 12 + 0 ≤ 25639; omega⟩ (fun rm_ v H locs hv hP hD hS => ?_)
        obtain ⟨b2, F2, G2⟩ := v
        obtain ⟨hF2, hv⟩ := hv
        dsimp only at hF2 hv
        replace hP : va_P (dC, dI) vwCl [(h0, .inr (0, [.ref h1, .ref h2, .int (nI n2), .int (nI p2)])), (h1, .inl (cA, 512, .inl M2)), (h2, .inl (cB, 512, .inl S2)), (o0, .inl (cO, 1, .inr (.inl fo2))), (a0, .inr (1, [.int (zv (!b2)), .int (nI nn), .ref a1])), (a1, .inl (cM, 16385, .inl F2))] H := hP
        replace hD : va_D (fun q : Nat => s.heap.size ≤ q) [(h0, .inr (0, [.ref h1, .ref h2, .int (nI n2), .int (nI p2)])), (h1, .inl (cA, 512, .inl M2)), (h2, .inl (cB, 512, .inl S2)), (o0, .inl (cO, 1, .inr (.inl fo2))), (a0, .inr (1, [.int (zv (!b2)), .int (nI nn), .ref a1])), (a1, .inl (cM, 16385, .inl F2))] := hD
        have hT := tie_make g0 gR hw hv
        obtain ⟨g2, en, gR2, hres⟩ := hT
        dsimp only at g2 en gR2 hres
        subst en
        replace hP : va_P (dC, dI) vwCl [(h0, .inr (0, [.ref h1, .ref h2, .int (nI n2), .int (nI p2)])), (h1, .inl (cA, 512, .inl M2)), (h2, .inl (cB, 512, .inl S2)), (o0, .inl (cO, 1, .inr (.inl fo2))), (a0, .inr (1, [.int (zv (!b2)), .int (nI n2), .ref a1])), (a1, .inl (cM, 16385, .inl F2))] H := hP
        replace hD : va_D (fun q : Nat => s.heap.size ≤ q) [(h0, .inr (0, [.ref h1, .ref h2, .int (nI n2), .int (nI p2)])), (h1, .inl (cA, 512, .inl M2)), (h2, .inl (cB, 512, .inl S2)), (o0, .inl (cO, 1, .inr (.inl fo2))), (a0, .inr (1, [.int (zv (!b2)), .int (nI n2), .ref a1])), (a1, .inl (cM, 16385, .inl F2))] := hD
        refine lv_istore (lv' := [(6, .int rm_), (5, .int kv), (0, .ref b), (1, .ref h0), (2, .ref a0), (3, .ref o0), (4, .int (nI (3 * t)))]) hx hb d_L_law_291 hl (by decide) rfl (fun ls hl => ?_)
        refine lv_aload_n hx hb d_L_law_293 rfl (lv_at hl 4 rfl) ?_
        refine cc_Vi (wc := [(a0, .inr (1, [.int (zv (!b2)), .int (nI n2), .ref a1])), (a1, .inl (cM, 16385, .inl F2))]) (wr := [(h0, .inr (0, [.ref h1, .ref h2, .int (nI n2), .int (nI p2)])), (h1, .inl (cA, 512, .inl M2)), (h2, .inl (cB, 512, .inl S2)), (o0, .inl (cO, 1, .inr (.inl fo2)))]) (tys' := [(cM, .boolean)]) ⟨hx, hb, hml, hown, hts⟩ hP hD hK hS hA [4, 5] [0, 1, 2, 3] [2] rfl rfl rfl (by decide) (by decide) (by decide) rfl (cM_thrown l dC dI a0 a1 cM _ F2 G2 n2 (zv (!b2)) hF2) (cwV 0 hts g_L_52 rfl rfl rfl (by decide +kernel) ⟨Nat.le_of_ble_eq_true rfl, Nat.le_of_ble_eq_true rfl⟩) 0 1 rfl rfl rfl rfl hl.1 rfl (Nat.le_of_ble_eq_true rfl) d_L_law_294 ⟨by show cs + 2 + 0 + 0 ≤ 1035; omega, by show sl + 12 + 0 + 0 ≤ 25639; omega⟩ (fun rt v H locs hv2 hP hD hS => ?_)
        subst hv2
        replace hP : va_P (dC, dI) vwCl [(h0, .inr (0, [.ref h1, .ref h2, .int (nI n2), .int (nI p2)])), (h1, .inl (cA, 512, .inl M2)), (h2, .inl (cB, 512, .inl S2)), (o0, .inl (cO, 1, .inr (.inl fo2))), (a0, .inr (1, [.int (zv (!b2)), .int (nI n2), .ref a1])), (a1, .inl (cM, 16385, .inl F2))] H := hP
        replace hD : va_D (fun q : Nat => s.heap.size ≤ q) [(h0, .inr (0, [.ref h1, .ref h2, .int (nI n2), .int (nI p2)])), (h1, .inl (cA, 512, .inl M2)), (h2, .inl (cB, 512, .inl S2)), (o0, .inl (cO, 1, .inr (.inl fo2))), (a0, .inr (1, [.int (zv (!b2)), .int (nI n2), .ref a1])), (a1, .inl (cM, 16385, .inl F2))] := hD
        rcases hres with ⟨rfl, rfl, eo⟩ | ⟨rfl, rfl⟩
        · refine lv_iload hx hb d_L_law_297 (lv_at hl 1 rfl) ?_
          refine lv_icmp_eq (tgt := 304) hx hb d_L_law_299 (by decide) (fun c3 => ?_) (fun c3 => ?_)
          · refine lv_iload hx hb d_L_law_304 (lv_at hl 1 rfl) ?_
            refine lv_if_ne (tgt := 321) hx hb d_L_law_306 (by decide) (fun c4 => ?_) (fun c4 => ?_)
            · replace c4 : ¬ (0 = 0) := fun h9 => c4 ((nI_eq (a := 0) (b := 0) (by omega) (by omega)).mpr h9)
              exact absurd rfl c4
            · replace c4 : 0 = 0 := (nI_eq (a := 0) (b := 0) (by omega) (by omega)).mp c4
              refine lv_aload_n hx hb d_L_law_309 rfl (lv_at hl 5 rfl) ?_
              refine lv_iconst (v := nI 0) hx hb d_L_law_310 (by decide) ?_
              refine va_lald hx hb hK hP 3 3 rfl rfl (vp_in_nI (by omega) (by decide)) d_L_law_311 ?_
              rw [nI_clamp (by omega)]
              refine lv_iload hx hb d_L_law_312 (lv_at hl 0 rfl) ?_
              refine lv_i2l (v := rm_.toInt64) hx hb d_L_law_314 rfl ?_
              refine W.lcmp hx hb d_L_law_315 ?_
              refine lv_if_eq (tgt := 321) hx hb d_L_law_316 (by decide) (fun c5 => ?_) (fun c5 => ?_)
              · refine lv_goto (tgt := 604) hx hb d_L_law_321 (by decide) ?_
                refine lv_iinc (v := nI ((3 * t) + 3)) (lv' := [(4, .int (nI ((3 * t) + 3))), (6, .int rm_), (5, .int (nI 0)), (0, .ref b), (1, .ref h0), (2, .ref a0), (3, .ref o0)]) hx hb d_L_law_604 hl (k := 6) rfl (nI_add _ _) (by decide) rfl (fun ls hl => ?_)
                refine lv_goto (tgt := 23) hx hb d_L_law_607 (by decide) ?_
                exact ih (t + 1) n2 p2 M2 S2 fo2 (zv (!true)) F2 G2 (by omega) (by omega) g2 hF2 gR2 _ _ _ _ (by omega) (by omega) hP hD hS ls (lv_sub hl [3, 4, 5, 6, 0] rfl)
              · exact absurd (by (rw [eo]; exact z_cmp _)) c5
          · exact absurd rfl c3
        · refine lv_iload hx hb d_L_law_297 (lv_at hl 1 rfl) ?_
          refine lv_icmp_eq (tgt := 304) hx hb d_L_law_299 (by decide) (fun c3 => ?_) (fun c3 => ?_)
          · refine lv_iload hx hb d_L_law_304 (lv_at hl 1 rfl) ?_
            refine lv_if_ne (tgt := 321) hx hb d_L_law_306 (by decide) (fun c4 => ?_) (fun c4 => ?_)
            · replace c4 : ¬ (1 = 0) := fun h9 => c4 ((nI_eq (a := 1) (b := 0) (by omega) (by omega)).mpr h9)
              refine lv_goto (tgt := 604) hx hb d_L_law_321 (by decide) ?_
              refine lv_iinc (v := nI ((3 * t) + 3)) (lv' := [(4, .int (nI ((3 * t) + 3))), (6, .int rm_), (5, .int (nI 1)), (0, .ref b), (1, .ref h0), (2, .ref a0), (3, .ref o0)]) hx hb d_L_law_604 hl (k := 6) rfl (nI_add _ _) (by decide) rfl (fun ls hl => ?_)
              refine lv_goto (tgt := 23) hx hb d_L_law_607 (by decide) ?_
              exact ih (t + 1) n2 p2 M2 S2 fo2 (zv (!false)) F2 G2 (by omega) (by omega) g2 hF2 gR2 _ _ _ _ (by omega) (by omega) hP hD hS ls (lv_sub hl [3, 4, 5, 6, 0] rfl)
            · replace c4 : 1 = 0 := (nI_eq (a := 1) (b := 0) (by omega) (by omega)).mp c4
              exact absurd c4 (by decide)
          · exact absurd rfl c3
      · refine lv_tableIn (tgt := 324) (off := 285) hx hb d_L_law_39 (by decide) (by decide) (by decide) (by decide) ?_
        refine lv_aload_n hx hb d_L_law_324 rfl (lv_at hl 1 rfl) ?_
        refine lv_aload_n hx hb d_L_law_325 rfl (lv_at hl 0 rfl) ?_
        refine lv_iload hx hb d_L_law_326 (lv_at hl 4 rfl) ?_
        refine lv_iconst (v := nI 1) hx hb d_L_law_328 (by decide) ?_
        refine lv_iadd hx hb d_L_law_329 ?_
        refine lv_topi (nm_r (show _ = nI ((3 * t) + 1) from nI_add _ _) ?_)
        refine va_sld hx hb hX hbl hbA hS (vp_in_nI (by omega) (by omega)) d_L_law_330 ?_
        refine lv_topi (nm_r (show _ = xs ((3 * t) + 1) from by rw [nI_clamp (by omega)]) ?_)
        refine lv_aload_n hx hb d_L_law_331 rfl (lv_at hl 3 rfl) ?_
        refine cw_Si (wc := [(h0, .inr (0, [.ref h1, .ref h2, .int (nI nn), .int (nI pp)])), (h1, .inl (cA, 512, .inl M)), (h2, .inl (cB, 512, .inl S)), (o0, .inl (cO, 1, .inr (.inl fo)))]) (wr := [(a0, .inr (1, [.int th, .int (nI nn), .ref a1])), (a1, .inl (cM, 16385, .inl F))]) (tys' := [(cA, .int), (cB, .int), (cO, .long)]) ⟨hx, hb, hml, hown, hts⟩ hP hD hK hS hA hZ [0, 1, 2, 3] [4, 5] [0, 1, 3] rfl rfl rfl (by decide) (by decide) (by decide) rfl (cL_begin l hlt dC dI h0 h1 h2 o0 cA cB cO _ M S nn pp fo g0 (xs (3 * t + 1))) (vx_cwSW 3 hts g_L_66 rfl rfl rfl (by decide +kernel) ⟨Nat.le_of_ble_eq_true rfl, Nat.le_of_ble_eq_true rfl⟩) rfl hl.1 rfl (Nat.le_of_ble_eq_true rfl) d_L_law_332 ⟨by show cs + 1 ≤ 1035; omega, by show sl + 6 ≤ 25639; omega⟩ (fun kv u H locs hw hP hD hS => ?_)
        obtain ⟨⟨n2, p2, M2, S2⟩, fo2⟩ := u
        replace hP : va_P (dC, dI) vwCl [(a0, .inr (1, [.int th, .int (nI nn), .ref a1])), (a1, .inl (cM, 16385, .inl F)), (h0, .inr (0, [.ref h1, .ref h2, .int (nI n2), .int (nI p2)])), (h1, .inl (cA, 512, .inl M2)), (h2, .inl (cB, 512, .inl S2)), (o0, .inl (cO, 1, .inr (.inl fo2)))] H := hP
        replace hD : va_D (fun q : Nat => s.heap.size ≤ q) [(a0, .inr (1, [.int th, .int (nI nn), .ref a1])), (a1, .inl (cM, 16385, .inl F)), (h0, .inr (0, [.ref h1, .ref h2, .int (nI n2), .int (nI p2)])), (h1, .inl (cA, 512, .inl M2)), (h2, .inl (cB, 512, .inl S2)), (o0, .inl (cO, 1, .inr (.inl fo2)))] := hD
        refine lv_istore (lv' := [(5, .int kv), (0, .ref b), (1, .ref h0), (2, .ref a0), (3, .ref o0), (4, .int (nI (3 * t)))]) hx hb d_L_law_335 hl (by decide) rfl (fun ls hl => ?_)
        refine lv_aload_n hx hb d_L_law_337 rfl (lv_at hl 3 rfl) ?_
        refine lv_aload_n hx hb d_L_law_338 rfl (lv_at hl 1 rfl) ?_
        refine lv_iload hx hb d_L_law_339 (lv_at hl 5 rfl) ?_
        refine lv_iconst (v := nI 1) hx hb d_L_law_341 (by decide) ?_
        refine lv_iadd hx hb d_L_law_342 ?_
        refine lv_topi (nm_r (show _ = nI ((3 * t) + 1) from nI_add _ _) ?_)
        refine va_sld hx hb hX hbl hbA hS (vp_in_nI (by omega) (by omega)) d_L_law_343 ?_
        refine lv_topi (nm_r (show _ = xs ((3 * t) + 1) from by rw [nI_clamp (by omega)]) ?_)
        refine cc_Vi (wc := [(a0, .inr (1, [.int th, .int (nI nn), .ref a1])), (a1, .inl (cM, 16385, .inl F))]) (wr := [(h0, .inr (0, [.ref h1, .ref h2, .int (nI n2), .int (nI p2)])), (h1, .inl (cA, 512, .inl M2)), (h2, .inl (cB, 512, .inl S2)), (o0, .inl (cO, 1, .inr (.inl fo2)))]) (tys' := [(cM, .boolean)]) ⟨hx, hb, hml, hown, hts⟩ hP hD hK hS hA [0, 1] [2, 3, 4, 5] [2] rfl rfl rfl (by decide) (by decide) (by decide) rfl (cM_begin l dC dI a0 a1 cM _ F G nn th hF (xs (3 * t + 1)) i2 gG0 gR.2) (cwV 1 hts g_L_68 rfl rfl rfl (by decide +kernel) ⟨Nat.le_of_ble_eq_true rfl, Nat.le_of_ble_eq_true rfl⟩) 0 1 rfl rfl rfl rfl hl.1 rfl (Nat.le_of_ble_eq_true rfl) d_L_law_344 ⟨by show cs + 1 + 0 ≤ 1035; omega, by show sl + 6 + 0 ≤ 25639; omega⟩ (fun rm_ v H locs hv hP hD hS => ?_)
        obtain ⟨b2, F2, G2⟩ := v
        obtain ⟨hF2, hv⟩ := hv
        dsimp only at hF2 hv
        replace hP : va_P (dC, dI) vwCl [(h0, .inr (0, [.ref h1, .ref h2, .int (nI n2), .int (nI p2)])), (h1, .inl (cA, 512, .inl M2)), (h2, .inl (cB, 512, .inl S2)), (o0, .inl (cO, 1, .inr (.inl fo2))), (a0, .inr (1, [.int (zv (!b2)), .int (nI nn), .ref a1])), (a1, .inl (cM, 16385, .inl F2))] H := hP
        replace hD : va_D (fun q : Nat => s.heap.size ≤ q) [(h0, .inr (0, [.ref h1, .ref h2, .int (nI n2), .int (nI p2)])), (h1, .inl (cA, 512, .inl M2)), (h2, .inl (cB, 512, .inl S2)), (o0, .inl (cO, 1, .inr (.inl fo2))), (a0, .inr (1, [.int (zv (!b2)), .int (nI nn), .ref a1])), (a1, .inl (cM, 16385, .inl F2))] := hD
        have hT := tie_begin g0 gR hw hv
        obtain ⟨g2, en, gR2, hres⟩ := hT
        dsimp only at g2 en gR2 hres
        subst en
        replace hP : va_P (dC, dI) vwCl [(h0, .inr (0, [.ref h1, .ref h2, .int (nI n2), .int (nI p2)])), (h1, .inl (cA, 512, .inl M2)), (h2, .inl (cB, 512, .inl S2)), (o0, .inl (cO, 1, .inr (.inl fo2))), (a0, .inr (1, [.int (zv (!b2)), .int (nI n2), .ref a1])), (a1, .inl (cM, 16385, .inl F2))] H := hP
        replace hD : va_D (fun q : Nat => s.heap.size ≤ q) [(h0, .inr (0, [.ref h1, .ref h2, .int (nI n2), .int (nI p2)])), (h1, .inl (cA, 512, .inl M2)), (h2, .inl (cB, 512, .inl S2)), (o0, .inl (cO, 1, .inr (.inl fo2))), (a0, .inr (1, [.int (zv (!b2)), .int (nI n2), .ref a1])), (a1, .inl (cM, 16385, .inl F2))] := hD
        refine lv_istore (lv' := [(6, .int rm_), (5, .int kv), (0, .ref b), (1, .ref h0), (2, .ref a0), (3, .ref o0), (4, .int (nI (3 * t)))]) hx hb d_L_law_347 hl (by decide) rfl (fun ls hl => ?_)
        refine lv_aload_n hx hb d_L_law_349 rfl (lv_at hl 4 rfl) ?_
        refine cc_Vi (wc := [(a0, .inr (1, [.int (zv (!b2)), .int (nI n2), .ref a1])), (a1, .inl (cM, 16385, .inl F2))]) (wr := [(h0, .inr (0, [.ref h1, .ref h2, .int (nI n2), .int (nI p2)])), (h1, .inl (cA, 512, .inl M2)), (h2, .inl (cB, 512, .inl S2)), (o0, .inl (cO, 1, .inr (.inl fo2)))]) (tys' := [(cM, .boolean)]) ⟨hx, hb, hml, hown, hts⟩ hP hD hK hS hA [4, 5] [0, 1, 2, 3] [2] rfl rfl rfl (by decide) (by decide) (by decide) rfl (cM_thrown l dC dI a0 a1 cM _ F2 G2 n2 (zv (!b2)) hF2) (cwV 0 hts g_L_52 rfl rfl rfl (by decide +kernel) ⟨Nat.le_of_ble_eq_true rfl, Nat.le_of_ble_eq_true rfl⟩) 0 1 rfl rfl rfl rfl hl.1 rfl (Nat.le_of_ble_eq_true rfl) d_L_law_350 ⟨by show cs + 1 + 0 + 0 ≤ 1035; omega, by show sl + 6 + 0 + 0 ≤ 25639; omega⟩ (fun rt v H locs hv2 hP hD hS => ?_)
        subst hv2
        replace hP : va_P (dC, dI) vwCl [(h0, .inr (0, [.ref h1, .ref h2, .int (nI n2), .int (nI p2)])), (h1, .inl (cA, 512, .inl M2)), (h2, .inl (cB, 512, .inl S2)), (o0, .inl (cO, 1, .inr (.inl fo2))), (a0, .inr (1, [.int (zv (!b2)), .int (nI n2), .ref a1])), (a1, .inl (cM, 16385, .inl F2))] H := hP
        replace hD : va_D (fun q : Nat => s.heap.size ≤ q) [(h0, .inr (0, [.ref h1, .ref h2, .int (nI n2), .int (nI p2)])), (h1, .inl (cA, 512, .inl M2)), (h2, .inl (cB, 512, .inl S2)), (o0, .inl (cO, 1, .inr (.inl fo2))), (a0, .inr (1, [.int (zv (!b2)), .int (nI n2), .ref a1])), (a1, .inl (cM, 16385, .inl F2))] := hD
        rcases hres with ⟨rfl, rfl, eo⟩ | ⟨rfl, rfl⟩
        · refine lv_iload hx hb d_L_law_353 (lv_at hl 1 rfl) ?_
          refine lv_icmp_eq (tgt := 360) hx hb d_L_law_355 (by decide) (fun c3 => ?_) (fun c3 => ?_)
          · refine lv_iload hx hb d_L_law_360 (lv_at hl 1 rfl) ?_
            refine lv_if_ne (tgt := 377) hx hb d_L_law_362 (by decide) (fun c4 => ?_) (fun c4 => ?_)
            · replace c4 : ¬ (0 = 0) := fun h9 => c4 ((nI_eq (a := 0) (b := 0) (by omega) (by omega)).mpr h9)
              exact absurd rfl c4
            · replace c4 : 0 = 0 := (nI_eq (a := 0) (b := 0) (by omega) (by omega)).mp c4
              refine lv_aload_n hx hb d_L_law_365 rfl (lv_at hl 5 rfl) ?_
              refine lv_iconst (v := nI 0) hx hb d_L_law_366 (by decide) ?_
              refine va_lald hx hb hK hP 3 3 rfl rfl (vp_in_nI (by omega) (by decide)) d_L_law_367 ?_
              rw [nI_clamp (by omega)]
              refine lv_iload hx hb d_L_law_368 (lv_at hl 0 rfl) ?_
              refine lv_i2l (v := rm_.toInt64) hx hb d_L_law_370 rfl ?_
              refine W.lcmp hx hb d_L_law_371 ?_
              refine lv_if_eq (tgt := 377) hx hb d_L_law_372 (by decide) (fun c5 => ?_) (fun c5 => ?_)
              · refine lv_goto (tgt := 604) hx hb d_L_law_377 (by decide) ?_
                refine lv_iinc (v := nI ((3 * t) + 3)) (lv' := [(4, .int (nI ((3 * t) + 3))), (6, .int rm_), (5, .int (nI 0)), (0, .ref b), (1, .ref h0), (2, .ref a0), (3, .ref o0)]) hx hb d_L_law_604 hl (k := 6) rfl (nI_add _ _) (by decide) rfl (fun ls hl => ?_)
                refine lv_goto (tgt := 23) hx hb d_L_law_607 (by decide) ?_
                exact ih (t + 1) n2 p2 M2 S2 fo2 (zv (!true)) F2 G2 (by omega) (by omega) g2 hF2 gR2 _ _ _ _ (by omega) (by omega) hP hD hS ls (lv_sub hl [3, 4, 5, 6, 0] rfl)
              · exact absurd (by (rw [eo]; exact z_cmp _)) c5
          · exact absurd rfl c3
        · refine lv_iload hx hb d_L_law_353 (lv_at hl 1 rfl) ?_
          refine lv_icmp_eq (tgt := 360) hx hb d_L_law_355 (by decide) (fun c3 => ?_) (fun c3 => ?_)
          · refine lv_iload hx hb d_L_law_360 (lv_at hl 1 rfl) ?_
            refine lv_if_ne (tgt := 377) hx hb d_L_law_362 (by decide) (fun c4 => ?_) (fun c4 => ?_)
            · replace c4 : ¬ (1 = 0) := fun h9 => c4 ((nI_eq (a := 1) (b := 0) (by omega) (by omega)).mpr h9)
              refine lv_goto (tgt := 604) hx hb d_L_law_377 (by decide) ?_
              refine lv_iinc (v := nI ((3 * t) + 3)) (lv' := [(4, .int (nI ((3 * t) + 3))), (6, .int rm_), (5, .int (nI 1)), (0, .ref b), (1, .ref h0), (2, .ref a0), (3, .ref o0)]) hx hb d_L_law_604 hl (k := 6) rfl (nI_add _ _) (by decide) rfl (fun ls hl => ?_)
              refine lv_goto (tgt := 23) hx hb d_L_law_607 (by decide) ?_
              exact ih (t + 1) n2 p2 M2 S2 fo2 (zv (!false)) F2 G2 (by omega) (by omega) g2 hF2 gR2 _ _ _ _ (by omega) (by omega) hP hD hS ls (lv_sub hl [3, 4, 5, 6, 0] rfl)
            · replace c4 : 1 = 0 := (nI_eq (a := 1) (b := 0) (by omega) (by omega)).mp c4
              exact absurd c4 (by decide)
          · exact absurd rfl c3
      · refine lv_tableIn (tgt := 380) (off := 341) hx hb d_L_law_39 (by decide) (by decide) (by decide) (by decide) ?_
        refine lv_aload_n hx hb d_L_law_380 rfl (lv_at hl 1 rfl) ?_
        refine lv_aload_n hx hb d_L_law_381 rfl (lv_at hl 0 rfl) ?_
        refine lv_iload hx hb d_L_law_382 (lv_at hl 4 rfl) ?_
        refine lv_iconst (v := nI 1) hx hb d_L_law_384 (by decide) ?_
        refine lv_iadd hx hb d_L_law_385 ?_
        refine lv_topi (nm_r (show _ = nI ((3 * t) + 1) from nI_add _ _) ?_)
        refine va_sld hx hb hX hbl hbA hS (vp_in_nI (by omega) (by omega)) d_L_law_386 ?_
        refine lv_topi (nm_r (show _ = xs ((3 * t) + 1) from by rw [nI_clamp (by omega)]) ?_)
        refine lv_aload_n hx hb d_L_law_387 rfl (lv_at hl 3 rfl) ?_
        refine cw_Si (wc := [(h0, .inr (0, [.ref h1, .ref h2, .int (nI nn), .int (nI pp)])), (h1, .inl (cA, 512, .inl M)), (h2, .inl (cB, 512, .inl S)), (o0, .inl (cO, 1, .inr (.inl fo)))]) (wr := [(a0, .inr (1, [.int th, .int (nI nn), .ref a1])), (a1, .inl (cM, 16385, .inl F))]) (tys' := [(cA, .int), (cB, .int), (cO, .long)]) ⟨hx, hb, hml, hown, hts⟩ hP hD hK hS hA hZ [0, 1, 2, 3] [4, 5] [0, 1, 3] rfl rfl rfl (by decide) (by decide) (by decide) rfl (cL_size l hlt dC dI h0 h1 h2 o0 cA cB cO _ M S nn pp fo g0 (xs (3 * t + 1))) (vx_cwSW 3 hts g_L_69 rfl rfl rfl (by decide +kernel) ⟨Nat.le_of_ble_eq_true rfl, Nat.le_of_ble_eq_true rfl⟩) rfl hl.1 rfl (Nat.le_of_ble_eq_true rfl) d_L_law_388 ⟨by show cs + 1 ≤ 1035; omega, by show sl + 6 ≤ 25639; omega⟩ (fun kv u H locs hw hP hD hS => ?_)
        obtain ⟨⟨n2, p2, M2, S2⟩, fo2⟩ := u
        replace hP : va_P (dC, dI) vwCl [(a0, .inr (1, [.int th, .int (nI nn), .ref a1])), (a1, .inl (cM, 16385, .inl F)), (h0, .inr (0, [.ref h1, .ref h2, .int (nI n2), .int (nI p2)])), (h1, .inl (cA, 512, .inl M2)), (h2, .inl (cB, 512, .inl S2)), (o0, .inl (cO, 1, .inr (.inl fo2)))] H := hP
        replace hD : va_D (fun q : Nat => s.heap.size ≤ q) [(a0, .inr (1, [.int th, .int (nI nn), .ref a1])), (a1, .inl (cM, 16385, .inl F)), (h0, .inr (0, [.ref h1, .ref h2, .int (nI n2), .int (nI p2)])), (h1, .inl (cA, 512, .inl M2)), (h2, .inl (cB, 512, .inl S2)), (o0, .inl (cO, 1, .inr (.inl fo2)))] := hD
        refine lv_istore (lv' := [(5, .int kv), (0, .ref b), (1, .ref h0), (2, .ref a0), (3, .ref o0), (4, .int (nI (3 * t)))]) hx hb d_L_law_391 hl (by decide) rfl (fun ls hl => ?_)
        refine lv_aload_n hx hb d_L_law_393 rfl (lv_at hl 3 rfl) ?_
        refine lv_aload_n hx hb d_L_law_394 rfl (lv_at hl 1 rfl) ?_
        refine lv_iload hx hb d_L_law_395 (lv_at hl 5 rfl) ?_
        refine lv_iconst (v := nI 1) hx hb d_L_law_397 (by decide) ?_
        refine lv_iadd hx hb d_L_law_398 ?_
        refine lv_topi (nm_r (show _ = nI ((3 * t) + 1) from nI_add _ _) ?_)
        refine va_sld hx hb hX hbl hbA hS (vp_in_nI (by omega) (by omega)) d_L_law_399 ?_
        refine lv_topi (nm_r (show _ = xs ((3 * t) + 1) from by rw [nI_clamp (by omega)]) ?_)
        refine cc_Vi (wc := [(a0, .inr (1, [.int th, .int (nI nn), .ref a1])), (a1, .inl (cM, 16385, .inl F))]) (wr := [(h0, .inr (0, [.ref h1, .ref h2, .int (nI n2), .int (nI p2)])), (h1, .inl (cA, 512, .inl M2)), (h2, .inl (cB, 512, .inl S2)), (o0, .inl (cO, 1, .inr (.inl fo2)))]) (tys' := [(cM, .boolean)]) ⟨hx, hb, hml, hown, hts⟩ hP hD hK hS hA [0, 1] [2, 3, 4, 5] [2] rfl rfl rfl (by decide) (by decide) (by decide) rfl (cM_size l dC dI a0 a1 cM _ F G nn th hF (xs (3 * t + 1)) i2 gG0 gR.2) (cwV 1 hts g_L_71 rfl rfl rfl (by decide +kernel) ⟨Nat.le_of_ble_eq_true rfl, Nat.le_of_ble_eq_true rfl⟩) 0 1 rfl rfl rfl rfl hl.1 rfl (Nat.le_of_ble_eq_true rfl) d_L_law_400 ⟨by show cs + 1 + 0 ≤ 1035; omega, by show sl + 6 + 0 ≤ 25639; omega⟩ (fun rm_ v H locs hv hP hD hS => ?_)
        obtain ⟨b2, F2, G2⟩ := v
        obtain ⟨hF2, hv⟩ := hv
        dsimp only at hF2 hv
        replace hP : va_P (dC, dI) vwCl [(h0, .inr (0, [.ref h1, .ref h2, .int (nI n2), .int (nI p2)])), (h1, .inl (cA, 512, .inl M2)), (h2, .inl (cB, 512, .inl S2)), (o0, .inl (cO, 1, .inr (.inl fo2))), (a0, .inr (1, [.int (zv (!b2)), .int (nI nn), .ref a1])), (a1, .inl (cM, 16385, .inl F2))] H := hP
        replace hD : va_D (fun q : Nat => s.heap.size ≤ q) [(h0, .inr (0, [.ref h1, .ref h2, .int (nI n2), .int (nI p2)])), (h1, .inl (cA, 512, .inl M2)), (h2, .inl (cB, 512, .inl S2)), (o0, .inl (cO, 1, .inr (.inl fo2))), (a0, .inr (1, [.int (zv (!b2)), .int (nI nn), .ref a1])), (a1, .inl (cM, 16385, .inl F2))] := hD
        have hT := tie_size g0 gR hw hv
        obtain ⟨g2, en, gR2, hres⟩ := hT
        dsimp only at g2 en gR2 hres
        subst en
        replace hP : va_P (dC, dI) vwCl [(h0, .inr (0, [.ref h1, .ref h2, .int (nI n2), .int (nI p2)])), (h1, .inl (cA, 512, .inl M2)), (h2, .inl (cB, 512, .inl S2)), (o0, .inl (cO, 1, .inr (.inl fo2))), (a0, .inr (1, [.int (zv (!b2)), .int (nI n2), .ref a1])), (a1, .inl (cM, 16385, .inl F2))] H := hP
        replace hD : va_D (fun q : Nat => s.heap.size ≤ q) [(h0, .inr (0, [.ref h1, .ref h2, .int (nI n2), .int (nI p2)])), (h1, .inl (cA, 512, .inl M2)), (h2, .inl (cB, 512, .inl S2)), (o0, .inl (cO, 1, .inr (.inl fo2))), (a0, .inr (1, [.int (zv (!b2)), .int (nI n2), .ref a1])), (a1, .inl (cM, 16385, .inl F2))] := hD
        refine lv_istore (lv' := [(6, .int rm_), (5, .int kv), (0, .ref b), (1, .ref h0), (2, .ref a0), (3, .ref o0), (4, .int (nI (3 * t)))]) hx hb d_L_law_403 hl (by decide) rfl (fun ls hl => ?_)
        refine lv_aload_n hx hb d_L_law_405 rfl (lv_at hl 4 rfl) ?_
        refine cc_Vi (wc := [(a0, .inr (1, [.int (zv (!b2)), .int (nI n2), .ref a1])), (a1, .inl (cM, 16385, .inl F2))]) (wr := [(h0, .inr (0, [.ref h1, .ref h2, .int (nI n2), .int (nI p2)])), (h1, .inl (cA, 512, .inl M2)), (h2, .inl (cB, 512, .inl S2)), (o0, .inl (cO, 1, .inr (.inl fo2)))]) (tys' := [(cM, .boolean)]) ⟨hx, hb, hml, hown, hts⟩ hP hD hK hS hA [4, 5] [0, 1, 2, 3] [2] rfl rfl rfl (by decide) (by decide) (by decide) rfl (cM_thrown l dC dI a0 a1 cM _ F2 G2 n2 (zv (!b2)) hF2) (cwV 0 hts g_L_52 rfl rfl rfl (by decide +kernel) ⟨Nat.le_of_ble_eq_true rfl, Nat.le_of_ble_eq_true rfl⟩) 0 1 rfl rfl rfl rfl hl.1 rfl (Nat.le_of_ble_eq_true rfl) d_L_law_406 ⟨by show cs + 1 + 0 + 0 ≤ 1035; omega, by show sl + 6 + 0 + 0 ≤ 25639; omega⟩ (fun rt v H locs hv2 hP hD hS => ?_)
        subst hv2
        replace hP : va_P (dC, dI) vwCl [(h0, .inr (0, [.ref h1, .ref h2, .int (nI n2), .int (nI p2)])), (h1, .inl (cA, 512, .inl M2)), (h2, .inl (cB, 512, .inl S2)), (o0, .inl (cO, 1, .inr (.inl fo2))), (a0, .inr (1, [.int (zv (!b2)), .int (nI n2), .ref a1])), (a1, .inl (cM, 16385, .inl F2))] H := hP
        replace hD : va_D (fun q : Nat => s.heap.size ≤ q) [(h0, .inr (0, [.ref h1, .ref h2, .int (nI n2), .int (nI p2)])), (h1, .inl (cA, 512, .inl M2)), (h2, .inl (cB, 512, .inl S2)), (o0, .inl (cO, 1, .inr (.inl fo2))), (a0, .inr (1, [.int (zv (!b2)), .int (nI n2), .ref a1])), (a1, .inl (cM, 16385, .inl F2))] := hD
        rcases hres with ⟨rfl, rfl, eo⟩ | ⟨rfl, rfl⟩
        · refine lv_iload hx hb d_L_law_409 (lv_at hl 1 rfl) ?_
          refine lv_icmp_eq (tgt := 416) hx hb d_L_law_411 (by decide) (fun c3 => ?_) (fun c3 => ?_)
          · refine lv_iload hx hb d_L_law_416 (lv_at hl 1 rfl) ?_
            refine lv_if_ne (tgt := 433) hx hb d_L_law_418 (by decide) (fun c4 => ?_) (fun c4 => ?_)
            · replace c4 : ¬ (0 = 0) := fun h9 => c4 ((nI_eq (a := 0) (b := 0) (by omega) (by omega)).mpr h9)
              exact absurd rfl c4
            · replace c4 : 0 = 0 := (nI_eq (a := 0) (b := 0) (by omega) (by omega)).mp c4
              refine lv_aload_n hx hb d_L_law_421 rfl (lv_at hl 5 rfl) ?_
              refine lv_iconst (v := nI 0) hx hb d_L_law_422 (by decide) ?_
              refine va_lald hx hb hK hP 3 3 rfl rfl (vp_in_nI (by omega) (by decide)) d_L_law_423 ?_
              rw [nI_clamp (by omega)]
              refine lv_iload hx hb d_L_law_424 (lv_at hl 0 rfl) ?_
              refine lv_i2l (v := rm_.toInt64) hx hb d_L_law_426 rfl ?_
              refine W.lcmp hx hb d_L_law_427 ?_
              refine lv_if_eq (tgt := 433) hx hb d_L_law_428 (by decide) (fun c5 => ?_) (fun c5 => ?_)
              · refine lv_goto (tgt := 604) hx hb d_L_law_433 (by decide) ?_
                refine lv_iinc (v := nI ((3 * t) + 3)) (lv' := [(4, .int (nI ((3 * t) + 3))), (6, .int rm_), (5, .int (nI 0)), (0, .ref b), (1, .ref h0), (2, .ref a0), (3, .ref o0)]) hx hb d_L_law_604 hl (k := 6) rfl (nI_add _ _) (by decide) rfl (fun ls hl => ?_)
                refine lv_goto (tgt := 23) hx hb d_L_law_607 (by decide) ?_
                exact ih (t + 1) n2 p2 M2 S2 fo2 (zv (!true)) F2 G2 (by omega) (by omega) g2 hF2 gR2 _ _ _ _ (by omega) (by omega) hP hD hS ls (lv_sub hl [3, 4, 5, 6, 0] rfl)
              · exact absurd (by (rw [eo]; exact z_cmp _)) c5
          · exact absurd rfl c3
        · refine lv_iload hx hb d_L_law_409 (lv_at hl 1 rfl) ?_
          refine lv_icmp_eq (tgt := 416) hx hb d_L_law_411 (by decide) (fun c3 => ?_) (fun c3 => ?_)
          · refine lv_iload hx hb d_L_law_416 (lv_at hl 1 rfl) ?_
            refine lv_if_ne (tgt := 433) hx hb d_L_law_418 (by decide) (fun c4 => ?_) (fun c4 => ?_)
            · replace c4 : ¬ (1 = 0) := fun h9 => c4 ((nI_eq (a := 1) (b := 0) (by omega) (by omega)).mpr h9)
              refine lv_goto (tgt := 604) hx hb d_L_law_433 (by decide) ?_
              refine lv_iinc (v := nI ((3 * t) + 3)) (lv' := [(4, .int (nI ((3 * t) + 3))), (6, .int rm_), (5, .int (nI 1)), (0, .ref b), (1, .ref h0), (2, .ref a0), (3, .ref o0)]) hx hb d_L_law_604 hl (k := 6) rfl (nI_add _ _) (by decide) rfl (fun ls hl => ?_)
              refine lv_goto (tgt := 23) hx hb d_L_law_607 (by decide) ?_
              exact ih (t + 1) n2 p2 M2 S2 fo2 (zv (!false)) F2 G2 (by omega) (by omega) g2 hF2 gR2 _ _ _ _ (by omega) (by omega) hP hD hS ls (lv_sub hl [3, 4, 5, 6, 0] rfl)
            · replace c4 : 1 = 0 := (nI_eq (a := 1) (b := 0) (by omega) (by omega)).mp c4
              exact absurd c4 (by decide)
          · exact absurd rfl c3
      · refine lv_tableIn (tgt := 436) (off := 397) hx hb d_L_law_39 (by decide) (by decide) (by decide) (by decide) ?_
        refine lv_aload_n hx hb d_L_law_436 rfl (lv_at hl 1 rfl) ?_
        refine lv_aload_n hx hb d_L_law_437 rfl (lv_at hl 0 rfl) ?_
        refine lv_iload hx hb d_L_law_438 (lv_at hl 4 rfl) ?_
        refine lv_iconst (v := nI 1) hx hb d_L_law_440 (by decide) ?_
        refine lv_iadd hx hb d_L_law_441 ?_
        refine lv_topi (nm_r (show _ = nI ((3 * t) + 1) from nI_add _ _) ?_)
        refine va_sld hx hb hX hbl hbA hS (vp_in_nI (by omega) (by omega)) d_L_law_442 ?_
        refine lv_topi (nm_r (show _ = xs ((3 * t) + 1) from by rw [nI_clamp (by omega)]) ?_)
        refine lv_aload_n hx hb d_L_law_443 rfl (lv_at hl 3 rfl) ?_
        refine cw_Si (wc := [(h0, .inr (0, [.ref h1, .ref h2, .int (nI nn), .int (nI pp)])), (h1, .inl (cA, 512, .inl M)), (h2, .inl (cB, 512, .inl S)), (o0, .inl (cO, 1, .inr (.inl fo)))]) (wr := [(a0, .inr (1, [.int th, .int (nI nn), .ref a1])), (a1, .inl (cM, 16385, .inl F))]) (tys' := [(cA, .int), (cB, .int), (cO, .long)]) ⟨hx, hb, hml, hown, hts⟩ hP hD hK hS hA hZ [0, 1, 2, 3] [4, 5] [0, 1, 3] rfl rfl rfl (by decide) (by decide) (by decide) rfl (cL_start l hlt dC dI h0 h1 h2 o0 cA cB cO _ M S nn pp fo g0 (xs (3 * t + 1))) (vx_cwSW 3 hts g_L_72 rfl rfl rfl (by decide +kernel) ⟨Nat.le_of_ble_eq_true rfl, Nat.le_of_ble_eq_true rfl⟩) rfl hl.1 rfl (Nat.le_of_ble_eq_true rfl) d_L_law_444 ⟨by show cs + 1 ≤ 1035; omega, by show sl + 6 ≤ 25639; omega⟩ (fun kv u H locs hw hP hD hS => ?_)
        obtain ⟨⟨n2, p2, M2, S2⟩, fo2⟩ := u
        replace hP : va_P (dC, dI) vwCl [(a0, .inr (1, [.int th, .int (nI nn), .ref a1])), (a1, .inl (cM, 16385, .inl F)), (h0, .inr (0, [.ref h1, .ref h2, .int (nI n2), .int (nI p2)])), (h1, .inl (cA, 512, .inl M2)), (h2, .inl (cB, 512, .inl S2)), (o0, .inl (cO, 1, .inr (.inl fo2)))] H := hP
        replace hD : va_D (fun q : Nat => s.heap.size ≤ q) [(a0, .inr (1, [.int th, .int (nI nn), .ref a1])), (a1, .inl (cM, 16385, .inl F)), (h0, .inr (0, [.ref h1, .ref h2, .int (nI n2), .int (nI p2)])), (h1, .inl (cA, 512, .inl M2)), (h2, .inl (cB, 512, .inl S2)), (o0, .inl (cO, 1, .inr (.inl fo2)))] := hD
        refine lv_istore (lv' := [(5, .int kv), (0, .ref b), (1, .ref h0), (2, .ref a0), (3, .ref o0), (4, .int (nI (3 * t)))]) hx hb d_L_law_447 hl (by decide) rfl (fun ls hl => ?_)
        refine lv_aload_n hx hb d_L_law_449 rfl (lv_at hl 3 rfl) ?_
        refine lv_aload_n hx hb d_L_law_450 rfl (lv_at hl 1 rfl) ?_
        refine lv_iload hx hb d_L_law_451 (lv_at hl 5 rfl) ?_
        refine lv_iconst (v := nI 1) hx hb d_L_law_453 (by decide) ?_
        refine lv_iadd hx hb d_L_law_454 ?_
        refine lv_topi (nm_r (show _ = nI ((3 * t) + 1) from nI_add _ _) ?_)
        refine va_sld hx hb hX hbl hbA hS (vp_in_nI (by omega) (by omega)) d_L_law_455 ?_
        refine lv_topi (nm_r (show _ = xs ((3 * t) + 1) from by rw [nI_clamp (by omega)]) ?_)
        refine cc_Vi (wc := [(a0, .inr (1, [.int th, .int (nI nn), .ref a1])), (a1, .inl (cM, 16385, .inl F))]) (wr := [(h0, .inr (0, [.ref h1, .ref h2, .int (nI n2), .int (nI p2)])), (h1, .inl (cA, 512, .inl M2)), (h2, .inl (cB, 512, .inl S2)), (o0, .inl (cO, 1, .inr (.inl fo2)))]) (tys' := [(cM, .boolean)]) ⟨hx, hb, hml, hown, hts⟩ hP hD hK hS hA [0, 1] [2, 3, 4, 5] [2] rfl rfl rfl (by decide) (by decide) (by decide) rfl (cM_start l dC dI a0 a1 cM _ F G nn th hF (xs (3 * t + 1)) i2 gG0 gR.2) (cwV 1 hts g_L_74 rfl rfl rfl (by decide +kernel) ⟨Nat.le_of_ble_eq_true rfl, Nat.le_of_ble_eq_true rfl⟩) 0 1 rfl rfl rfl rfl hl.1 rfl (Nat.le_of_ble_eq_true rfl) d_L_law_456 ⟨by show cs + 1 + 0 ≤ 1035; omega, by show sl + 6 + 0 ≤ 25639; omega⟩ (fun rm_ v H locs hv hP hD hS => ?_)
        obtain ⟨b2, F2, G2⟩ := v
        obtain ⟨hF2, hv⟩ := hv
        dsimp only at hF2 hv
        replace hP : va_P (dC, dI) vwCl [(h0, .inr (0, [.ref h1, .ref h2, .int (nI n2), .int (nI p2)])), (h1, .inl (cA, 512, .inl M2)), (h2, .inl (cB, 512, .inl S2)), (o0, .inl (cO, 1, .inr (.inl fo2))), (a0, .inr (1, [.int (zv (!b2)), .int (nI nn), .ref a1])), (a1, .inl (cM, 16385, .inl F2))] H := hP
        replace hD : va_D (fun q : Nat => s.heap.size ≤ q) [(h0, .inr (0, [.ref h1, .ref h2, .int (nI n2), .int (nI p2)])), (h1, .inl (cA, 512, .inl M2)), (h2, .inl (cB, 512, .inl S2)), (o0, .inl (cO, 1, .inr (.inl fo2))), (a0, .inr (1, [.int (zv (!b2)), .int (nI nn), .ref a1])), (a1, .inl (cM, 16385, .inl F2))] := hD
        have hT := tie_start g0 gR hw hv
        obtain ⟨g2, en, gR2, hres⟩ := hT
        dsimp only at g2 en gR2 hres
        subst en
        replace hP : va_P (dC, dI) vwCl [(h0, .inr (0, [.ref h1, .ref h2, .int (nI n2), .int (nI p2)])), (h1, .inl (cA, 512, .inl M2)), (h2, .inl (cB, 512, .inl S2)), (o0, .inl (cO, 1, .inr (.inl fo2))), (a0, .inr (1, [.int (zv (!b2)), .int (nI n2), .ref a1])), (a1, .inl (cM, 16385, .inl F2))] H := hP
        replace hD : va_D (fun q : Nat => s.heap.size ≤ q) [(h0, .inr (0, [.ref h1, .ref h2, .int (nI n2), .int (nI p2)])), (h1, .inl (cA, 512, .inl M2)), (h2, .inl (cB, 512, .inl S2)), (o0, .inl (cO, 1, .inr (.inl fo2))), (a0, .inr (1, [.int (zv (!b2)), .int (nI n2), .ref a1])), (a1, .inl (cM, 16385, .inl F2))] := hD
        refine lv_istore (lv' := [(6, .int rm_), (5, .int kv), (0, .ref b), (1, .ref h0), (2, .ref a0), (3, .ref o0), (4, .int (nI (3 * t)))]) hx hb d_L_law_459 hl (by decide) rfl (fun ls hl => ?_)
        refine lv_aload_n hx hb d_L_law_461 rfl (lv_at hl 4 rfl) ?_
        refine cc_Vi (wc := [(a0, .inr (1, [.int (zv (!b2)), .int (nI n2), .ref a1])), (a1, .inl (cM, 16385, .inl F2))]) (wr := [(h0, .inr (0, [.ref h1, .ref h2, .int (nI n2), .int (nI p2)])), (h1, .inl (cA, 512, .inl M2)), (h2, .inl (cB, 512, .inl S2)), (o0, .inl (cO, 1, .inr (.inl fo2)))]) (tys' := [(cM, .boolean)]) ⟨hx, hb, hml, hown, hts⟩ hP hD hK hS hA [4, 5] [0, 1, 2, 3] [2] rfl rfl rfl (by decide) (by decide) (by decide) rfl (cM_thrown l dC dI a0 a1 cM _ F2 G2 n2 (zv (!b2)) hF2) (cwV 0 hts g_L_52 rfl rfl rfl (by decide +kernel) ⟨Nat.le_of_ble_eq_true rfl, Nat.le_of_ble_eq_true rfl⟩) 0 1 rfl rfl rfl rfl hl.1 rfl (Nat.le_of_ble_eq_true rfl) d_L_law_462 ⟨by show cs + 1 + 0 + 0 ≤ 1035; omega, by show sl + 6 + 0 + 0 ≤ 25639; omega⟩ (fun rt v H locs hv2 hP hD hS => ?_)
        subst hv2
        replace hP : va_P (dC, dI) vwCl [(h0, .inr (0, [.ref h1, .ref h2, .int (nI n2), .int (nI p2)])), (h1, .inl (cA, 512, .inl M2)), (h2, .inl (cB, 512, .inl S2)), (o0, .inl (cO, 1, .inr (.inl fo2))), (a0, .inr (1, [.int (zv (!b2)), .int (nI n2), .ref a1])), (a1, .inl (cM, 16385, .inl F2))] H := hP
        replace hD : va_D (fun q : Nat => s.heap.size ≤ q) [(h0, .inr (0, [.ref h1, .ref h2, .int (nI n2), .int (nI p2)])), (h1, .inl (cA, 512, .inl M2)), (h2, .inl (cB, 512, .inl S2)), (o0, .inl (cO, 1, .inr (.inl fo2))), (a0, .inr (1, [.int (zv (!b2)), .int (nI n2), .ref a1])), (a1, .inl (cM, 16385, .inl F2))] := hD
        rcases hres with ⟨rfl, rfl, eo⟩ | ⟨rfl, rfl⟩
        · refine lv_iload hx hb d_L_law_465 (lv_at hl 1 rfl) ?_
          refine lv_icmp_eq (tgt := 472) hx hb d_L_law_467 (by decide) (fun c3 => ?_) (fun c3 => ?_)
          · refine lv_iload hx hb d_L_law_472 (lv_at hl 1 rfl) ?_
            refine lv_if_ne (tgt := 489) hx hb d_L_law_474 (by decide) (fun c4 => ?_) (fun c4 => ?_)
            · replace c4 : ¬ (0 = 0) := fun h9 => c4 ((nI_eq (a := 0) (b := 0) (by omega) (by omega)).mpr h9)
              exact absurd rfl c4
            · replace c4 : 0 = 0 := (nI_eq (a := 0) (b := 0) (by omega) (by omega)).mp c4
              refine lv_aload_n hx hb d_L_law_477 rfl (lv_at hl 5 rfl) ?_
              refine lv_iconst (v := nI 0) hx hb d_L_law_478 (by decide) ?_
              refine va_lald hx hb hK hP 3 3 rfl rfl (vp_in_nI (by omega) (by decide)) d_L_law_479 ?_
              rw [nI_clamp (by omega)]
              refine lv_iload hx hb d_L_law_480 (lv_at hl 0 rfl) ?_
              refine lv_i2l (v := rm_.toInt64) hx hb d_L_law_482 rfl ?_
              refine W.lcmp hx hb d_L_law_483 ?_
              refine lv_if_eq (tgt := 489) hx hb d_L_law_484 (by decide) (fun c5 => ?_) (fun c5 => ?_)
              · refine lv_goto (tgt := 604) hx hb d_L_law_489 (by decide) ?_
                refine lv_iinc (v := nI ((3 * t) + 3)) (lv' := [(4, .int (nI ((3 * t) + 3))), (6, .int rm_), (5, .int (nI 0)), (0, .ref b), (1, .ref h0), (2, .ref a0), (3, .ref o0)]) hx hb d_L_law_604 hl (k := 6) rfl (nI_add _ _) (by decide) rfl (fun ls hl => ?_)
                refine lv_goto (tgt := 23) hx hb d_L_law_607 (by decide) ?_
                exact ih (t + 1) n2 p2 M2 S2 fo2 (zv (!true)) F2 G2 (by omega) (by omega) g2 hF2 gR2 _ _ _ _ (by omega) (by omega) hP hD hS ls (lv_sub hl [3, 4, 5, 6, 0] rfl)
              · exact absurd (by (rw [eo]; exact z_cmp _)) c5
          · exact absurd rfl c3
        · refine lv_iload hx hb d_L_law_465 (lv_at hl 1 rfl) ?_
          refine lv_icmp_eq (tgt := 472) hx hb d_L_law_467 (by decide) (fun c3 => ?_) (fun c3 => ?_)
          · refine lv_iload hx hb d_L_law_472 (lv_at hl 1 rfl) ?_
            refine lv_if_ne (tgt := 489) hx hb d_L_law_474 (by decide) (fun c4 => ?_) (fun c4 => ?_)
            · replace c4 : ¬ (1 = 0) := fun h9 => c4 ((nI_eq (a := 1) (b := 0) (by omega) (by omega)).mpr h9)
              refine lv_goto (tgt := 604) hx hb d_L_law_489 (by decide) ?_
              refine lv_iinc (v := nI ((3 * t) + 3)) (lv' := [(4, .int (nI ((3 * t) + 3))), (6, .int rm_), (5, .int (nI 1)), (0, .ref b), (1, .ref h0), (2, .ref a0), (3, .ref o0)]) hx hb d_L_law_604 hl (k := 6) rfl (nI_add _ _) (by decide) rfl (fun ls hl => ?_)
              refine lv_goto (tgt := 23) hx hb d_L_law_607 (by decide) ?_
              exact ih (t + 1) n2 p2 M2 S2 fo2 (zv (!false)) F2 G2 (by omega) (by omega) g2 hF2 gR2 _ _ _ _ (by omega) (by omega) hP hD hS ls (lv_sub hl [3, 4, 5, 6, 0] rfl)
            · replace c4 : 1 = 0 := (nI_eq (a := 1) (b := 0) (by omega) (by omega)).mp c4
              exact absurd c4 (by decide)
          · exact absurd rfl c3
      · refine lv_tableIn (tgt := 492) (off := 453) hx hb d_L_law_39 (by decide) (by decide) (by decide) (by decide) ?_
        refine lv_aload_n hx hb d_L_law_492 rfl (lv_at hl 1 rfl) ?_
        refine lv_aload_n hx hb d_L_law_493 rfl (lv_at hl 0 rfl) ?_
        refine lv_iload hx hb d_L_law_494 (lv_at hl 4 rfl) ?_
        refine lv_iconst (v := nI 1) hx hb d_L_law_496 (by decide) ?_
        refine lv_iadd hx hb d_L_law_497 ?_
        refine lv_topi (nm_r (show _ = nI ((3 * t) + 1) from nI_add _ _) ?_)
        refine va_sld hx hb hX hbl hbA hS (vp_in_nI (by omega) (by omega)) d_L_law_498 ?_
        refine lv_topi (nm_r (show _ = xs ((3 * t) + 1) from by rw [nI_clamp (by omega)]) ?_)
        refine lv_aload_n hx hb d_L_law_499 rfl (lv_at hl 3 rfl) ?_
        refine cw_Si (wc := [(h0, .inr (0, [.ref h1, .ref h2, .int (nI nn), .int (nI pp)])), (h1, .inl (cA, 512, .inl M)), (h2, .inl (cB, 512, .inl S)), (o0, .inl (cO, 1, .inr (.inl fo)))]) (wr := [(a0, .inr (1, [.int th, .int (nI nn), .ref a1])), (a1, .inl (cM, 16385, .inl F))]) (tys' := [(cA, .int), (cB, .int), (cO, .long)]) ⟨hx, hb, hml, hown, hts⟩ hP hD hK hS hA hZ [0, 1, 2, 3] [4, 5] [0, 1, 3] rfl rfl rfl (by decide) (by decide) (by decide) rfl (cL_begins l hlt dC dI h0 h1 h2 o0 cA cB cO _ M S nn pp fo g0 (xs (3 * t + 1))) (vx_cwSW 3 hts g_L_75 rfl rfl rfl (by decide +kernel) ⟨Nat.le_of_ble_eq_true rfl, Nat.le_of_ble_eq_true rfl⟩) rfl hl.1 rfl (Nat.le_of_ble_eq_true rfl) d_L_law_500 ⟨by show cs + 1 ≤ 1035; omega, by show sl + 6 ≤ 25639; omega⟩ (fun kv u H locs hw hP hD hS => ?_)
        obtain ⟨⟨n2, p2, M2, S2⟩, fo2⟩ := u
        replace hP : va_P (dC, dI) vwCl [(a0, .inr (1, [.int th, .int (nI nn), .ref a1])), (a1, .inl (cM, 16385, .inl F)), (h0, .inr (0, [.ref h1, .ref h2, .int (nI n2), .int (nI p2)])), (h1, .inl (cA, 512, .inl M2)), (h2, .inl (cB, 512, .inl S2)), (o0, .inl (cO, 1, .inr (.inl fo2)))] H := hP
        replace hD : va_D (fun q : Nat => s.heap.size ≤ q) [(a0, .inr (1, [.int th, .int (nI nn), .ref a1])), (a1, .inl (cM, 16385, .inl F)), (h0, .inr (0, [.ref h1, .ref h2, .int (nI n2), .int (nI p2)])), (h1, .inl (cA, 512, .inl M2)), (h2, .inl (cB, 512, .inl S2)), (o0, .inl (cO, 1, .inr (.inl fo2)))] := hD
        refine lv_istore (lv' := [(5, .int kv), (0, .ref b), (1, .ref h0), (2, .ref a0), (3, .ref o0), (4, .int (nI (3 * t)))]) hx hb d_L_law_503 hl (by decide) rfl (fun ls hl => ?_)
        refine lv_aload_n hx hb d_L_law_505 rfl (lv_at hl 3 rfl) ?_
        refine lv_aload_n hx hb d_L_law_506 rfl (lv_at hl 1 rfl) ?_
        refine lv_iload hx hb d_L_law_507 (lv_at hl 5 rfl) ?_
        refine lv_iconst (v := nI 1) hx hb d_L_law_509 (by decide) ?_
        refine lv_iadd hx hb d_L_law_510 ?_
        refine lv_topi (nm_r (show _ = nI ((3 * t) + 1) from nI_add _ _) ?_)
        refine va_sld hx hb hX hbl hbA hS (vp_in_nI (by omega) (by omega)) d_L_law_511 ?_
        refine lv_topi (nm_r (show _ = xs ((3 * t) + 1) from by rw [nI_clamp (by omega)]) ?_)
        refine cc_Vi (wc := [(a0, .inr (1, [.int th, .int (nI nn), .ref a1])), (a1, .inl (cM, 16385, .inl F))]) (wr := [(h0, .inr (0, [.ref h1, .ref h2, .int (nI n2), .int (nI p2)])), (h1, .inl (cA, 512, .inl M2)), (h2, .inl (cB, 512, .inl S2)), (o0, .inl (cO, 1, .inr (.inl fo2)))]) (tys' := [(cM, .boolean)]) ⟨hx, hb, hml, hown, hts⟩ hP hD hK hS hA [0, 1] [2, 3, 4, 5] [2] rfl rfl rfl (by decide) (by decide) (by decide) rfl (cM_begins l dC dI a0 a1 cM _ F G nn th hF (xs (3 * t + 1)) i2 gG0 gR.2) (cwV 1 hts g_L_77 rfl rfl rfl (by decide +kernel) ⟨Nat.le_of_ble_eq_true rfl, Nat.le_of_ble_eq_true rfl⟩) 0 1 rfl rfl rfl rfl hl.1 rfl (Nat.le_of_ble_eq_true rfl) d_L_law_512 ⟨by show cs + 1 + 0 ≤ 1035; omega, by show sl + 6 + 0 ≤ 25639; omega⟩ (fun rm_ v H locs hv hP hD hS => ?_)
        obtain ⟨b2, F2, G2⟩ := v
        obtain ⟨hF2, hv⟩ := hv
        dsimp only at hF2 hv
        replace hP : va_P (dC, dI) vwCl [(h0, .inr (0, [.ref h1, .ref h2, .int (nI n2), .int (nI p2)])), (h1, .inl (cA, 512, .inl M2)), (h2, .inl (cB, 512, .inl S2)), (o0, .inl (cO, 1, .inr (.inl fo2))), (a0, .inr (1, [.int (zv (!b2)), .int (nI nn), .ref a1])), (a1, .inl (cM, 16385, .inl F2))] H := hP
        replace hD : va_D (fun q : Nat => s.heap.size ≤ q) [(h0, .inr (0, [.ref h1, .ref h2, .int (nI n2), .int (nI p2)])), (h1, .inl (cA, 512, .inl M2)), (h2, .inl (cB, 512, .inl S2)), (o0, .inl (cO, 1, .inr (.inl fo2))), (a0, .inr (1, [.int (zv (!b2)), .int (nI nn), .ref a1])), (a1, .inl (cM, 16385, .inl F2))] := hD
        have hT := tie_begins g0 gR hw hv
        obtain ⟨g2, en, gR2, hres⟩ := hT
        dsimp only at g2 en gR2 hres
        subst en
        replace hP : va_P (dC, dI) vwCl [(h0, .inr (0, [.ref h1, .ref h2, .int (nI n2), .int (nI p2)])), (h1, .inl (cA, 512, .inl M2)), (h2, .inl (cB, 512, .inl S2)), (o0, .inl (cO, 1, .inr (.inl fo2))), (a0, .inr (1, [.int (zv (!b2)), .int (nI n2), .ref a1])), (a1, .inl (cM, 16385, .inl F2))] H := hP
        replace hD : va_D (fun q : Nat => s.heap.size ≤ q) [(h0, .inr (0, [.ref h1, .ref h2, .int (nI n2), .int (nI p2)])), (h1, .inl (cA, 512, .inl M2)), (h2, .inl (cB, 512, .inl S2)), (o0, .inl (cO, 1, .inr (.inl fo2))), (a0, .inr (1, [.int (zv (!b2)), .int (nI n2), .ref a1])), (a1, .inl (cM, 16385, .inl F2))] := hD
        refine lv_istore (lv' := [(6, .int rm_), (5, .int kv), (0, .ref b), (1, .ref h0), (2, .ref a0), (3, .ref o0), (4, .int (nI (3 * t)))]) hx hb d_L_law_515 hl (by decide) rfl (fun ls hl => ?_)
        refine lv_aload_n hx hb d_L_law_517 rfl (lv_at hl 4 rfl) ?_
        refine cc_Vi (wc := [(a0, .inr (1, [.int (zv (!b2)), .int (nI n2), .ref a1])), (a1, .inl (cM, 16385, .inl F2))]) (wr := [(h0, .inr (0, [.ref h1, .ref h2, .int (nI n2), .int (nI p2)])), (h1, .inl (cA, 512, .inl M2)), (h2, .inl (cB, 512, .inl S2)), (o0, .inl (cO, 1, .inr (.inl fo2)))]) (tys' := [(cM, .boolean)]) ⟨hx, hb, hml, hown, hts⟩ hP hD hK hS hA [4, 5] [0, 1, 2, 3] [2] rfl rfl rfl (by decide) (by decide) (by decide) rfl (cM_thrown l dC dI a0 a1 cM _ F2 G2 n2 (zv (!b2)) hF2) (cwV 0 hts g_L_52 rfl rfl rfl (by decide +kernel) ⟨Nat.le_of_ble_eq_true rfl, Nat.le_of_ble_eq_true rfl⟩) 0 1 rfl rfl rfl rfl hl.1 rfl (Nat.le_of_ble_eq_true rfl) d_L_law_518 ⟨by show cs + 1 + 0 + 0 ≤ 1035; omega, by show sl + 6 + 0 + 0 ≤ 25639; omega⟩ (fun rt v H locs hv2 hP hD hS => ?_)
        subst hv2
        replace hP : va_P (dC, dI) vwCl [(h0, .inr (0, [.ref h1, .ref h2, .int (nI n2), .int (nI p2)])), (h1, .inl (cA, 512, .inl M2)), (h2, .inl (cB, 512, .inl S2)), (o0, .inl (cO, 1, .inr (.inl fo2))), (a0, .inr (1, [.int (zv (!b2)), .int (nI n2), .ref a1])), (a1, .inl (cM, 16385, .inl F2))] H := hP
        replace hD : va_D (fun q : Nat => s.heap.size ≤ q) [(h0, .inr (0, [.ref h1, .ref h2, .int (nI n2), .int (nI p2)])), (h1, .inl (cA, 512, .inl M2)), (h2, .inl (cB, 512, .inl S2)), (o0, .inl (cO, 1, .inr (.inl fo2))), (a0, .inr (1, [.int (zv (!b2)), .int (nI n2), .ref a1])), (a1, .inl (cM, 16385, .inl F2))] := hD
        rcases hres with ⟨rfl, rfl, eo⟩ | ⟨rfl, rfl⟩
        · refine lv_iload hx hb d_L_law_521 (lv_at hl 1 rfl) ?_
          refine lv_icmp_eq (tgt := 528) hx hb d_L_law_523 (by decide) (fun c3 => ?_) (fun c3 => ?_)
          · refine lv_iload hx hb d_L_law_528 (lv_at hl 1 rfl) ?_
            refine lv_if_ne (tgt := 545) hx hb d_L_law_530 (by decide) (fun c4 => ?_) (fun c4 => ?_)
            · replace c4 : ¬ (0 = 0) := fun h9 => c4 ((nI_eq (a := 0) (b := 0) (by omega) (by omega)).mpr h9)
              exact absurd rfl c4
            · replace c4 : 0 = 0 := (nI_eq (a := 0) (b := 0) (by omega) (by omega)).mp c4
              refine lv_aload_n hx hb d_L_law_533 rfl (lv_at hl 5 rfl) ?_
              refine lv_iconst (v := nI 0) hx hb d_L_law_534 (by decide) ?_
              refine va_lald hx hb hK hP 3 3 rfl rfl (vp_in_nI (by omega) (by decide)) d_L_law_535 ?_
              rw [nI_clamp (by omega)]
              refine lv_iload hx hb d_L_law_536 (lv_at hl 0 rfl) ?_
              refine lv_i2l (v := rm_.toInt64) hx hb d_L_law_538 rfl ?_
              refine W.lcmp hx hb d_L_law_539 ?_
              refine lv_if_eq (tgt := 545) hx hb d_L_law_540 (by decide) (fun c5 => ?_) (fun c5 => ?_)
              · refine lv_goto (tgt := 604) hx hb d_L_law_545 (by decide) ?_
                refine lv_iinc (v := nI ((3 * t) + 3)) (lv' := [(4, .int (nI ((3 * t) + 3))), (6, .int rm_), (5, .int (nI 0)), (0, .ref b), (1, .ref h0), (2, .ref a0), (3, .ref o0)]) hx hb d_L_law_604 hl (k := 6) rfl (nI_add _ _) (by decide) rfl (fun ls hl => ?_)
                refine lv_goto (tgt := 23) hx hb d_L_law_607 (by decide) ?_
                exact ih (t + 1) n2 p2 M2 S2 fo2 (zv (!true)) F2 G2 (by omega) (by omega) g2 hF2 gR2 _ _ _ _ (by omega) (by omega) hP hD hS ls (lv_sub hl [3, 4, 5, 6, 0] rfl)
              · exact absurd (by (rw [eo]; exact z_cmp _)) c5
          · exact absurd rfl c3
        · refine lv_iload hx hb d_L_law_521 (lv_at hl 1 rfl) ?_
          refine lv_icmp_eq (tgt := 528) hx hb d_L_law_523 (by decide) (fun c3 => ?_) (fun c3 => ?_)
          · refine lv_iload hx hb d_L_law_528 (lv_at hl 1 rfl) ?_
            refine lv_if_ne (tgt := 545) hx hb d_L_law_530 (by decide) (fun c4 => ?_) (fun c4 => ?_)
            · replace c4 : ¬ (1 = 0) := fun h9 => c4 ((nI_eq (a := 1) (b := 0) (by omega) (by omega)).mpr h9)
              refine lv_goto (tgt := 604) hx hb d_L_law_545 (by decide) ?_
              refine lv_iinc (v := nI ((3 * t) + 3)) (lv' := [(4, .int (nI ((3 * t) + 3))), (6, .int rm_), (5, .int (nI 1)), (0, .ref b), (1, .ref h0), (2, .ref a0), (3, .ref o0)]) hx hb d_L_law_604 hl (k := 6) rfl (nI_add _ _) (by decide) rfl (fun ls hl => ?_)
              refine lv_goto (tgt := 23) hx hb d_L_law_607 (by decide) ?_
              exact ih (t + 1) n2 p2 M2 S2 fo2 (zv (!false)) F2 G2 (by omega) (by omega) g2 hF2 gR2 _ _ _ _ (by omega) (by omega) hP hD hS ls (lv_sub hl [3, 4, 5, 6, 0] rfl)
            · replace c4 : 1 = 0 := (nI_eq (a := 1) (b := 0) (by omega) (by omega)).mp c4
              exact absurd c4 (by decide)
          · exact absurd rfl c3
      · refine lv_tableIn (tgt := 548) (off := 509) hx hb d_L_law_39 (by decide) (by decide) (by decide) (by decide) ?_
        refine lv_aload_n hx hb d_L_law_548 rfl (lv_at hl 1 rfl) ?_
        refine lv_aload_n hx hb d_L_law_549 rfl (lv_at hl 0 rfl) ?_
        refine lv_iload hx hb d_L_law_550 (lv_at hl 4 rfl) ?_
        refine lv_iconst (v := nI 1) hx hb d_L_law_552 (by decide) ?_
        refine lv_iadd hx hb d_L_law_553 ?_
        refine lv_topi (nm_r (show _ = nI ((3 * t) + 1) from nI_add _ _) ?_)
        refine va_sld hx hb hX hbl hbA hS (vp_in_nI (by omega) (by omega)) d_L_law_554 ?_
        refine lv_topi (nm_r (show _ = xs ((3 * t) + 1) from by rw [nI_clamp (by omega)]) ?_)
        refine lv_aload_n hx hb d_L_law_555 rfl (lv_at hl 3 rfl) ?_
        refine cw_Si (wc := [(h0, .inr (0, [.ref h1, .ref h2, .int (nI nn), .int (nI pp)])), (h1, .inl (cA, 512, .inl M)), (h2, .inl (cB, 512, .inl S)), (o0, .inl (cO, 1, .inr (.inl fo)))]) (wr := [(a0, .inr (1, [.int th, .int (nI nn), .ref a1])), (a1, .inl (cM, 16385, .inl F))]) (tys' := [(cA, .int), (cB, .int), (cO, .long)]) ⟨hx, hb, hml, hown, hts⟩ hP hD hK hS hA hZ [0, 1, 2, 3] [4, 5] [0, 1, 3] rfl rfl rfl (by decide) (by decide) (by decide) rfl (cL_count l hlt dC dI h0 h1 h2 o0 cA cB cO _ M S nn pp fo g0 (xs (3 * t + 1))) (vx_cwSW 3 hts g_L_78 rfl rfl rfl (by decide +kernel) ⟨Nat.le_of_ble_eq_true rfl, Nat.le_of_ble_eq_true rfl⟩) rfl hl.1 rfl (Nat.le_of_ble_eq_true rfl) d_L_law_556 ⟨by show cs + 1 ≤ 1035; omega, by show sl + 6 ≤ 25639; omega⟩ (fun kv u H locs hw hP hD hS => ?_)
        obtain ⟨⟨n2, p2, M2, S2⟩, fo2⟩ := u
        replace hP : va_P (dC, dI) vwCl [(a0, .inr (1, [.int th, .int (nI nn), .ref a1])), (a1, .inl (cM, 16385, .inl F)), (h0, .inr (0, [.ref h1, .ref h2, .int (nI n2), .int (nI p2)])), (h1, .inl (cA, 512, .inl M2)), (h2, .inl (cB, 512, .inl S2)), (o0, .inl (cO, 1, .inr (.inl fo2)))] H := hP
        replace hD : va_D (fun q : Nat => s.heap.size ≤ q) [(a0, .inr (1, [.int th, .int (nI nn), .ref a1])), (a1, .inl (cM, 16385, .inl F)), (h0, .inr (0, [.ref h1, .ref h2, .int (nI n2), .int (nI p2)])), (h1, .inl (cA, 512, .inl M2)), (h2, .inl (cB, 512, .inl S2)), (o0, .inl (cO, 1, .inr (.inl fo2)))] := hD
        refine lv_istore (lv' := [(5, .int kv), (0, .ref b), (1, .ref h0), (2, .ref a0), (3, .ref o0), (4, .int (nI (3 * t)))]) hx hb d_L_law_559 hl (by decide) rfl (fun ls hl => ?_)
        refine lv_aload_n hx hb d_L_law_561 rfl (lv_at hl 3 rfl) ?_
        refine lv_aload_n hx hb d_L_law_562 rfl (lv_at hl 1 rfl) ?_
        refine lv_iload hx hb d_L_law_563 (lv_at hl 5 rfl) ?_
        refine lv_iconst (v := nI 1) hx hb d_L_law_565 (by decide) ?_
        refine lv_iadd hx hb d_L_law_566 ?_
        refine lv_topi (nm_r (show _ = nI ((3 * t) + 1) from nI_add _ _) ?_)
        refine va_sld hx hb hX hbl hbA hS (vp_in_nI (by omega) (by omega)) d_L_law_567 ?_
        refine lv_topi (nm_r (show _ = xs ((3 * t) + 1) from by rw [nI_clamp (by omega)]) ?_)
        refine cc_Vi (wc := [(a0, .inr (1, [.int th, .int (nI nn), .ref a1])), (a1, .inl (cM, 16385, .inl F))]) (wr := [(h0, .inr (0, [.ref h1, .ref h2, .int (nI n2), .int (nI p2)])), (h1, .inl (cA, 512, .inl M2)), (h2, .inl (cB, 512, .inl S2)), (o0, .inl (cO, 1, .inr (.inl fo2)))]) (tys' := [(cM, .boolean)]) ⟨hx, hb, hml, hown, hts⟩ hP hD hK hS hA [0, 1] [2, 3, 4, 5] [2] rfl rfl rfl (by decide) (by decide) (by decide) rfl (cM_count l dC dI a0 a1 cM _ F G nn th hF (xs (3 * t + 1)) i1 i2 gG0 gR.2) (cwV 1 hts g_L_80 rfl rfl rfl (by decide +kernel) ⟨Nat.le_of_ble_eq_true rfl, Nat.le_of_ble_eq_true rfl⟩) 0 1 rfl rfl rfl rfl hl.1 rfl (Nat.le_of_ble_eq_true rfl) d_L_law_568 ⟨by show cs + 1 + 0 ≤ 1035; omega, by show sl + 6 + 0 ≤ 25639; omega⟩ (fun rm_ v H locs hv hP hD hS => ?_)
        obtain ⟨b2, F2, G2⟩ := v
        obtain ⟨hF2, hv⟩ := hv
        dsimp only at hF2 hv
        replace hP : va_P (dC, dI) vwCl [(h0, .inr (0, [.ref h1, .ref h2, .int (nI n2), .int (nI p2)])), (h1, .inl (cA, 512, .inl M2)), (h2, .inl (cB, 512, .inl S2)), (o0, .inl (cO, 1, .inr (.inl fo2))), (a0, .inr (1, [.int (zv (!b2)), .int (nI nn), .ref a1])), (a1, .inl (cM, 16385, .inl F2))] H := hP
        replace hD : va_D (fun q : Nat => s.heap.size ≤ q) [(h0, .inr (0, [.ref h1, .ref h2, .int (nI n2), .int (nI p2)])), (h1, .inl (cA, 512, .inl M2)), (h2, .inl (cB, 512, .inl S2)), (o0, .inl (cO, 1, .inr (.inl fo2))), (a0, .inr (1, [.int (zv (!b2)), .int (nI nn), .ref a1])), (a1, .inl (cM, 16385, .inl F2))] := hD
        have hT := tie_count g0 gR hw hv
        obtain ⟨g2, en, gR2, hres⟩ := hT
        dsimp only at g2 en gR2 hres
        subst en
        replace hP : va_P (dC, dI) vwCl [(h0, .inr (0, [.ref h1, .ref h2, .int (nI n2), .int (nI p2)])), (h1, .inl (cA, 512, .inl M2)), (h2, .inl (cB, 512, .inl S2)), (o0, .inl (cO, 1, .inr (.inl fo2))), (a0, .inr (1, [.int (zv (!b2)), .int (nI n2), .ref a1])), (a1, .inl (cM, 16385, .inl F2))] H := hP
        replace hD : va_D (fun q : Nat => s.heap.size ≤ q) [(h0, .inr (0, [.ref h1, .ref h2, .int (nI n2), .int (nI p2)])), (h1, .inl (cA, 512, .inl M2)), (h2, .inl (cB, 512, .inl S2)), (o0, .inl (cO, 1, .inr (.inl fo2))), (a0, .inr (1, [.int (zv (!b2)), .int (nI n2), .ref a1])), (a1, .inl (cM, 16385, .inl F2))] := hD
        refine lv_istore (lv' := [(6, .int rm_), (5, .int kv), (0, .ref b), (1, .ref h0), (2, .ref a0), (3, .ref o0), (4, .int (nI (3 * t)))]) hx hb d_L_law_571 hl (by decide) rfl (fun ls hl => ?_)
        refine lv_aload_n hx hb d_L_law_573 rfl (lv_at hl 4 rfl) ?_
        refine cc_Vi (wc := [(a0, .inr (1, [.int (zv (!b2)), .int (nI n2), .ref a1])), (a1, .inl (cM, 16385, .inl F2))]) (wr := [(h0, .inr (0, [.ref h1, .ref h2, .int (nI n2), .int (nI p2)])), (h1, .inl (cA, 512, .inl M2)), (h2, .inl (cB, 512, .inl S2)), (o0, .inl (cO, 1, .inr (.inl fo2)))]) (tys' := [(cM, .boolean)]) ⟨hx, hb, hml, hown, hts⟩ hP hD hK hS hA [4, 5] [0, 1, 2, 3] [2] rfl rfl rfl (by decide) (by decide) (by decide) rfl (cM_thrown l dC dI a0 a1 cM _ F2 G2 n2 (zv (!b2)) hF2) (cwV 0 hts g_L_52 rfl rfl rfl (by decide +kernel) ⟨Nat.le_of_ble_eq_true rfl, Nat.le_of_ble_eq_true rfl⟩) 0 1 rfl rfl rfl rfl hl.1 rfl (Nat.le_of_ble_eq_true rfl) d_L_law_574 ⟨by show cs + 1 + 0 + 0 ≤ 1035; omega, by show sl + 6 + 0 + 0 ≤ 25639; omega⟩ (fun rt v H locs hv2 hP hD hS => ?_)
        subst hv2
        replace hP : va_P (dC, dI) vwCl [(h0, .inr (0, [.ref h1, .ref h2, .int (nI n2), .int (nI p2)])), (h1, .inl (cA, 512, .inl M2)), (h2, .inl (cB, 512, .inl S2)), (o0, .inl (cO, 1, .inr (.inl fo2))), (a0, .inr (1, [.int (zv (!b2)), .int (nI n2), .ref a1])), (a1, .inl (cM, 16385, .inl F2))] H := hP
        replace hD : va_D (fun q : Nat => s.heap.size ≤ q) [(h0, .inr (0, [.ref h1, .ref h2, .int (nI n2), .int (nI p2)])), (h1, .inl (cA, 512, .inl M2)), (h2, .inl (cB, 512, .inl S2)), (o0, .inl (cO, 1, .inr (.inl fo2))), (a0, .inr (1, [.int (zv (!b2)), .int (nI n2), .ref a1])), (a1, .inl (cM, 16385, .inl F2))] := hD
        rcases hres with ⟨rfl, rfl, eo⟩ | ⟨rfl, rfl⟩
        · refine lv_iload hx hb d_L_law_577 (lv_at hl 1 rfl) ?_
          refine lv_icmp_eq (tgt := 584) hx hb d_L_law_579 (by decide) (fun c3 => ?_) (fun c3 => ?_)
          · refine lv_iload hx hb d_L_law_584 (lv_at hl 1 rfl) ?_
            refine lv_if_ne (tgt := 601) hx hb d_L_law_586 (by decide) (fun c4 => ?_) (fun c4 => ?_)
            · replace c4 : ¬ (0 = 0) := fun h9 => c4 ((nI_eq (a := 0) (b := 0) (by omega) (by omega)).mpr h9)
              exact absurd rfl c4
            · replace c4 : 0 = 0 := (nI_eq (a := 0) (b := 0) (by omega) (by omega)).mp c4
              refine lv_aload_n hx hb d_L_law_589 rfl (lv_at hl 5 rfl) ?_
              refine lv_iconst (v := nI 0) hx hb d_L_law_590 (by decide) ?_
              refine va_lald hx hb hK hP 3 3 rfl rfl (vp_in_nI (by omega) (by decide)) d_L_law_591 ?_
              rw [nI_clamp (by omega)]
              refine lv_iload hx hb d_L_law_592 (lv_at hl 0 rfl) ?_
              refine lv_i2l (v := rm_.toInt64) hx hb d_L_law_594 rfl ?_
              refine W.lcmp hx hb d_L_law_595 ?_
              refine lv_if_eq (tgt := 601) hx hb d_L_law_596 (by decide) (fun c5 => ?_) (fun c5 => ?_)
              · refine lv_goto (tgt := 604) hx hb d_L_law_601 (by decide) ?_
                refine lv_iinc (v := nI ((3 * t) + 3)) (lv' := [(4, .int (nI ((3 * t) + 3))), (6, .int rm_), (5, .int (nI 0)), (0, .ref b), (1, .ref h0), (2, .ref a0), (3, .ref o0)]) hx hb d_L_law_604 hl (k := 6) rfl (nI_add _ _) (by decide) rfl (fun ls hl => ?_)
                refine lv_goto (tgt := 23) hx hb d_L_law_607 (by decide) ?_
                exact ih (t + 1) n2 p2 M2 S2 fo2 (zv (!true)) F2 G2 (by omega) (by omega) g2 hF2 gR2 _ _ _ _ (by omega) (by omega) hP hD hS ls (lv_sub hl [3, 4, 5, 6, 0] rfl)
              · exact absurd (by (rw [eo]; exact z_cmp _)) c5
          · exact absurd rfl c3
        · refine lv_iload hx hb d_L_law_577 (lv_at hl 1 rfl) ?_
          refine lv_icmp_eq (tgt := 584) hx hb d_L_law_579 (by decide) (fun c3 => ?_) (fun c3 => ?_)
          · refine lv_iload hx hb d_L_law_584 (lv_at hl 1 rfl) ?_
            refine lv_if_ne (tgt := 601) hx hb d_L_law_586 (by decide) (fun c4 => ?_) (fun c4 => ?_)
            · replace c4 : ¬ (1 = 0) := fun h9 => c4 ((nI_eq (a := 1) (b := 0) (by omega) (by omega)).mpr h9)
              refine lv_goto (tgt := 604) hx hb d_L_law_601 (by decide) ?_
              refine lv_iinc (v := nI ((3 * t) + 3)) (lv' := [(4, .int (nI ((3 * t) + 3))), (6, .int rm_), (5, .int (nI 1)), (0, .ref b), (1, .ref h0), (2, .ref a0), (3, .ref o0)]) hx hb d_L_law_604 hl (k := 6) rfl (nI_add _ _) (by decide) rfl (fun ls hl => ?_)
              refine lv_goto (tgt := 23) hx hb d_L_law_607 (by decide) ?_
              exact ih (t + 1) n2 p2 M2 S2 fo2 (zv (!false)) F2 G2 (by omega) (by omega) g2 hF2 gR2 _ _ _ _ (by omega) (by omega) hP hD hS ls (lv_sub hl [3, 4, 5, 6, 0] rfl)
            · replace c4 : 1 = 0 := (nI_eq (a := 1) (b := 0) (by omega) (by omega)).mp c4
              exact absurd c4 (by decide)
          · exact absurd rfl c3
      · refine lv_tableOut (tgt := 604) hx hb d_L_law_39 (Or.inr (by rw [nI_toInt (by omega)]; omega)) (by decide) ?_
        refine lv_iinc (v := nI ((3 * t) + 3)) (lv' := [(4, .int (nI ((3 * t) + 3))), (0, .ref b), (1, .ref h0), (2, .ref a0), (3, .ref o0)]) hx hb d_L_law_604 hl (k := 4) rfl (nI_add _ _) (by decide) rfl (fun ls hl => ?_)
        refine lv_goto (tgt := 23) hx hb d_L_law_607 (by decide) ?_
        exact ih (t + 1) nn pp M S fo th F G (by omega) (by omega) g0 hF gR _ _ _ _ (by omega) (by omega) hP hD hS ls (lv_sub hl [1, 2, 3, 4, 0] rfl)
