/-! THROWS: what a throw needs of the start (zThr), contracts over it (cx_P), calls of methods that may throw -/
def zStr (U : State) : Prop := ∀ q ∈ zTexts, ∃ a : Nat, vk_R q.1 q.2.1 q.2.2 a U
def zThr (A : Nat → Prop) (U : State) (H : Heap) : Prop := zStr U ∧ (∀ w ∈ zBad, va_Nw w U) ∧ vx_Zq Bundle.tN "UNASSIGNED_STACK" Bundle.steD A U H ∧ vx_Zq Bundle.tN "SUPPRESSED_SENTINEL" Bundle.listD A U H
theorem zBad_warm {s U : State} (hW : s.WarmedH U.vm) : ∀ w ∈ zBad, va_Nw w s → va_Nw w U := by
  intro w hw h
  simp only [zBad, List.mem_cons, List.not_mem_nil, or_false] at hw
  rcases hw with rfl | rfl | rfl | rfl | rfl
  · exact va_Nw.warmC hW h
  · exact va_Nw.warmC hW h
  · exact va_Nw.warmD hW h
  · exact va_Nw.warmD hW h
  · exact va_Nw.warmD hW h
theorem zThr.pass {A A' : Nat → Prop} {s U : State} {H : Heap} {locs : List Loc} (h : zThr A s s.heap) (hS : va_S A s.heap H locs) (hAA : ∀ q, A' q → A q) (hW : s.WarmedH U.vm) (hU : U.heap = H) : zThr A' U U.heap := by
  obtain ⟨h1, hb, h2, h3⟩ := h
  refine ⟨fun q hq => ?_, fun w hw => zBad_warm hW w hw (hb w hw), ?_, ?_⟩
  · obtain ⟨a, ha⟩ := h1 q hq
    exact ⟨a, vk_R.warm hW ha⟩
  · rw [hU]
    exact vx_Zq.moved hW.alike ((vx_Zq.kept h2 (fun a x y => hS.2.1 a x y)).narrow hAA)
  · rw [hU]
    exact vx_Zq.moved hW.alike ((vx_Zq.kept h3 (fun a x y => hS.2.1 a x y)).narrow hAA)
abbrev cx_P (D : va_G) (cl : List vw_C) (W : va_W) (tys : List (ClassId × FieldType)) (sz : Nat) (U : State) : Prop := (U.heap.size = sz ∧ va_P D cl W U.heap ∧ va_K D cl tys U ∧ va_D (fun _ => True) W) ∧ zThr (va_A W sz) U U.heap
abbrev cx_X (D : va_G) (cl : List vw_C) (tys : List (ClassId × FieldType)) (W : va_W) (A : Nat → Prop) (EX : String) (bad : Prop) : String → State → State → Prop := vx_X (fun _ : Unit => bad) (fun E _ t => E = EX ∧ cc_B D cl tys A W t) A
theorem cx_blind {D : va_G} {cl : List vw_C} {W : va_W} {tys : List (ClassId × FieldType)} {sz : Nat} {av : List Value} : FrameBlind (va_Pc av (cx_P D cl W tys sz)) := fun a U g mk q => by
  obtain ⟨q0, ⟨q1, qP, qK, qD⟩, q2, q5, q3, q4⟩ := q
  refine ⟨q0, ⟨q1, qP, va_K.moved (u := U) (U := U.calling g mk a) (Vm.Alike.refl U.vm) qK, qD⟩, fun x hx => ?_, fun w hw => va_Nw.same (u := U) (U := U.calling g mk a) (zBad_on w hw) rfl (q5 w hw), vx_Zq.moved (u := U) (U := U.calling g mk a) (Vm.Alike.refl U.vm) q3, vx_Zq.moved (u := U) (U := U.calling g mk a) (Vm.Alike.refl U.vm) q4⟩
  obtain ⟨b, hb⟩ := q2 x hx
  exact ⟨b, vk_R.same (u := U) (U := U.calling g mk a) rfl hb⟩
theorem cx_pre {D : va_G} {cl : List vw_C} {W : va_W} {tys : List (ClassId × FieldType)} {av : List Value} {s : State} {H : Heap} {A A0 : Nat → Prop} {locs : List Loc} (hP : va_P D cl W H) (hK : va_K D cl tys s) (hD : va_D A W) (hZ : zThr A0 s s.heap) (hS : va_S A0 s.heap H locs) (hF : ∀ q, va_A W H.size q → A0 q) : ∀ U : State, U.heap = H → s.WarmedH U.vm → va_Pc av (cx_P D cl W tys H.size) av.toArray U :=
  fun U hU hW => ⟨rfl, ⟨by rw [hU], by rw [hU]; exact hP, va_K.moved hW.alike hK, hD.weaken (fun _ _ _ _ => trivial)⟩, hZ.pass hS hF hW hU⟩
section CX
variable {p : Program} {l : Launch} {e : Env} {R : Room} {s : State} {m : MethodId} {args : Array Value} {below : List Frame} {meth : Method} {c : Code} {H : Heap} {locs : List Loc} {cells slots : Nat} {Q : State → Prop}
variable {y : MethodName} {bytes cc : ByteArray} {maxL nL mc ms n index : Nat} {ret : Option FieldType} {ws : List Cond} {rm : Room} {Ts : List Cond} {own C : String} {b : Addr} {As rest st0 : List Value} {pc : Nat} {ls : Array Slot}
variable {D : va_G} {cl : List vw_C} {A0 : Nat → Prop} {w0 wc wr : va_W} {tys tys' : List (ClassId × FieldType)} {fs : List Value} {q : vw_C}
/-- an instance method that answers an int, or throws and leaves its cells as they were -/
theorem cx_Vi {S : Type} {post : Int32 → S → Prop} {WW : S → va_W} {EX : String} {bad : Prop} (S9 : CallFix p m c cc nL s args Ts own) (hP : va_P D cl w0 H) (hD : va_D A0 w0) (hK : va_K D cl tys s) (hS : va_S A0 s.heap H locs) (hA : ∀ q, s.heap.size ≤ q → A0 q) (hZ : zThr A0 s s.heap)
    (isC isR isK : List Nat) (hC : isC.map (fun i => w0[i]?) = wc.map some) (hC2 : isC.filterMap (fun i => w0[i]?) = wc) (hR : isR.map (fun i => w0[i]?) = wr.map some) (hn : va_nd isR = true) (hnc : va_nd isC = true) (hdis : ∀ i ∈ isR, i ∉ isC) (hKs : isK.filterMap (fun i => tys[i]?) = tys')
    (hM : vx_Met l y ws rm (va_Pc (.ref b :: As) (cx_P D cl wc tys' H.size)) (va_Qi post (fun u t => cc_B D cl tys' (va_A wc H.size) (WW u) t) (va_A wc H.size)) (cx_X D cl tys' wc (va_A wc H.size) EX bad) mc ms (va_A wc H.size))
    (cw : CallW R s args own C index y bytes maxL ret ws rm mc ms n) (q0 ci : Nat) (hc : cl[ci]? = some q) (hq : q.1 = C) (he : wc[q0]? = some (b, .inr (ci, fs)))
    (hn2 : As.length = n) (hsize : ls.size = nL) (hst : st0 = As.reverse ++ .ref b :: rest) (hW : (rest.map fun v => v.category).sum ≤ 8) (hdg : decode cc pc = .ok (.invokevirtual index, 3)) (hf : cells + mc ≤ R.cells ∧ slots + ms ≤ R.slots)
    (kx : ∀ (ce : Cell) (q9 : Addr) (H1 : Heap) (locs1 : List Loc), bad → va_P D cl (wr ++ wc) H1 → va_D A0 (wr ++ wc) → va_S A0 s.heap H1 locs1 → H1[q9]? = some ce → ce.vm = .none → s.vm.findClass EX = some ce.cls → vx_W p l e R s m args below meth c H1 locs1 (cells + mc) (slots + ms) Q (F0 m pc ls rest) q9)
    (kk : ∀ (r : Int32) (u : S) (H1 : Heap) (locs1 : List Loc), post r u → va_P D cl (wr ++ WW u) H1 → va_D A0 (wr ++ WW u) → va_S A0 s.heap H1 locs1 → W p l e R s m args below meth c H1 locs1 (cells + mc) (slots + ms) Q (F0 m (pc + 3) ls (.int r :: rest))) :
    W p l e R s m args below meth c H locs cells slots Q (F0 m pc ls st0) := by
  have hPc := hP.sub (ws' := wc) isC hC2
  have hDc := hD.sub (ws' := wc) isC hnc hC
  have hKc := hK.sub (tys' := tys') isK hKs
  have hFc := va_free (wc := wc) hD hS hA isC hC
  have hrec := va_recv hKc hPc hc he
  rw [hq] at hrec
  refine vx_calli (vx_runV (As := As) (rest := rest) S9 hM cw ⟨cx_blind, hrec, cx_pre hPc hKc hDc hZ hS hFc⟩ rfl hn2 hsize hst (lv_room hW) hdg hf) hS (fun q _ h => hFc q h) hFc (fun q _ h => hFc q h) (fun E ce q9 u t H1 locs1 ht hvm hw hB hz1 hk1 hS1 h1 h2 h3 => ?_) (fun r u t H1 locs1 ht hvm hw hB hz1 hk1 hS1 => ?_)
  · obtain ⟨rfl, hP1, hK1, hD1⟩ := hB
    rw [ht] at hP1
    obtain ⟨hP2, hD2⟩ := va_join (wr := wr) (w1 := wc) hP hD isC isR hC hR hn hdis hk1 hFc hP1 hD1
    exact kx ce q9 H1 locs1 hw hP2 hD2 hS1 h1 h2 h3
  · obtain ⟨hP1, hK1, hD1⟩ := hB
    rw [ht] at hP1
    obtain ⟨hP2, hD2⟩ := va_join (wr := wr) (w1 := WW u) hP hD isC isR hC hR hn hdis hk1 hFc hP1 hD1
    exact kk r u H1 locs1 hw hP2 hD2 hS1
/-- an instance method without an answer, that may throw -/
theorem cx_Vv {S : Type} {post : S → Prop} {WW : S → va_W} {EX : String} {bad : Prop} (S9 : CallFix p m c cc nL s args Ts own) (hP : va_P D cl w0 H) (hD : va_D A0 w0) (hK : va_K D cl tys s) (hS : va_S A0 s.heap H locs) (hA : ∀ q, s.heap.size ≤ q → A0 q) (hZ : zThr A0 s s.heap)
    (isC isR isK : List Nat) (hC : isC.map (fun i => w0[i]?) = wc.map some) (hC2 : isC.filterMap (fun i => w0[i]?) = wc) (hR : isR.map (fun i => w0[i]?) = wr.map some) (hn : va_nd isR = true) (hnc : va_nd isC = true) (hdis : ∀ i ∈ isR, i ∉ isC) (hKs : isK.filterMap (fun i => tys[i]?) = tys')
    (hM : vx_Met l y ws rm (va_Pc (.ref b :: As) (cx_P D cl wc tys' H.size)) (va_Qv post (fun u t => cc_B D cl tys' (va_A wc H.size) (WW u) t) (va_A wc H.size)) (cx_X D cl tys' wc (va_A wc H.size) EX bad) mc ms (va_A wc H.size))
    (cw : CallW R s args own C index y bytes maxL ret ws rm mc ms n) (q0 ci : Nat) (hc : cl[ci]? = some q) (hq : q.1 = C) (he : wc[q0]? = some (b, .inr (ci, fs)))
    (hn2 : As.length = n) (hsize : ls.size = nL) (hst : st0 = As.reverse ++ .ref b :: rest) (hW : (rest.map fun v => v.category).sum ≤ 8) (hdg : decode cc pc = .ok (.invokevirtual index, 3)) (hf : cells + mc ≤ R.cells ∧ slots + ms ≤ R.slots)
    (kx : ∀ (ce : Cell) (q9 : Addr) (H1 : Heap) (locs1 : List Loc), bad → va_P D cl (wr ++ wc) H1 → va_D A0 (wr ++ wc) → va_S A0 s.heap H1 locs1 → H1[q9]? = some ce → ce.vm = .none → s.vm.findClass EX = some ce.cls → vx_W p l e R s m args below meth c H1 locs1 (cells + mc) (slots + ms) Q (F0 m pc ls rest) q9)
    (kk : ∀ (u : S) (H1 : Heap) (locs1 : List Loc), post u → va_P D cl (wr ++ WW u) H1 → va_D A0 (wr ++ WW u) → va_S A0 s.heap H1 locs1 → W p l e R s m args below meth c H1 locs1 (cells + mc) (slots + ms) Q (F0 m (pc + 3) ls rest)) :
    W p l e R s m args below meth c H locs cells slots Q (F0 m pc ls st0) := by
  have hPc := hP.sub (ws' := wc) isC hC2
  have hDc := hD.sub (ws' := wc) isC hnc hC
  have hKc := hK.sub (tys' := tys') isK hKs
  have hFc := va_free (wc := wc) hD hS hA isC hC
  have hrec := va_recv hKc hPc hc he
  rw [hq] at hrec
  refine vx_callv (vx_runV (As := As) (rest := rest) S9 hM cw ⟨cx_blind, hrec, cx_pre hPc hKc hDc hZ hS hFc⟩ rfl hn2 hsize hst (lv_room hW) hdg hf) hS (fun q _ h => hFc q h) hFc (fun q _ h => hFc q h) (fun E ce q9 u t H1 locs1 ht hvm hw hB hz1 hk1 hS1 h1 h2 h3 => ?_) (fun u t H1 locs1 ht hvm hw hB hz1 hk1 hS1 => ?_)
  · obtain ⟨rfl, hP1, hK1, hD1⟩ := hB
    rw [ht] at hP1
    obtain ⟨hP2, hD2⟩ := va_join (wr := wr) (w1 := wc) hP hD isC isR hC hR hn hdis hk1 hFc hP1 hD1
    exact kx ce q9 H1 locs1 hw hP2 hD2 hS1 h1 h2 h3
  · obtain ⟨hP1, hK1, hD1⟩ := hB
    rw [ht] at hP1
    obtain ⟨hP2, hD2⟩ := va_join (wr := wr) (w1 := WW u) hP hD isC isR hC hR hn hdis hk1 hFc hP1 hD1
    exact kk u H1 locs1 hw hP2 hD2 hS1
end CX
