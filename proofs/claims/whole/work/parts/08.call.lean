/-! CALLS over a part of the world: one row a call. cc_P: a contract's start over the cells W (no more, no fewer); cc_B: its end -/
abbrev cc_P (D : va_G) (cl : List vw_C) (W : va_W) (tys : List (ClassId × FieldType)) (sz : Nat) (U : State) : Prop := U.heap.size = sz ∧ va_P D cl W U.heap ∧ va_K D cl tys U ∧ va_D (fun _ => True) W
abbrev cc_B (D : va_G) (cl : List vw_C) (tys : List (ClassId × FieldType)) (A : Nat → Prop) (W : va_W) (t : State) : Prop := va_P D cl W t.heap ∧ va_K D cl tys t ∧ va_D A W
theorem cc_blind {D : va_G} {cl : List vw_C} {W : va_W} {tys : List (ClassId × FieldType)} {sz : Nat} {av : List Value} : FrameBlind (va_Pc av (cc_P D cl W tys sz)) := fun a U g mk q => by
  obtain ⟨q0, q1, qP, qK, qD⟩ := q
  exact ⟨q0, q1, qP, va_K.moved (u := U) (U := U.calling g mk a) (Vm.Alike.refl U.vm) qK, qD⟩
theorem cc_pre {D : va_G} {cl : List vw_C} {W : va_W} {tys : List (ClassId × FieldType)} {av : List Value} {s : State} {H : Heap} {A : Nat → Prop} (hP : va_P D cl W H) (hK : va_K D cl tys s) (hD : va_D A W) : ∀ U : State, U.heap = H → s.WarmedH U.vm → va_Pc av (cc_P D cl W tys H.size) av.toArray U :=
  fun U hU hW => ⟨rfl, by rw [hU], by rw [hU]; exact hP, va_K.moved hW.alike hK, hD.weaken (fun _ _ _ _ => trivial)⟩
section CC
variable {p : Program} {l : Launch} {e : Env} {R : Room} {s : State} {m : MethodId} {args : Array Value} {below : List Frame} {meth : Method} {c : Code} {H : Heap} {locs : List Loc} {cells slots : Nat} {Q : State → Prop}
variable {y : MethodName} {bytes cc : ByteArray} {maxL nL mc ms n index : Nat} {ret : Option FieldType} {ws : List Cond} {rm : Room} {Ts : List Cond} {own C : String} {b : Addr} {As rest st0 : List Value} {pc : Nat} {ls : Array Slot}
variable {D : va_G} {cl : List vw_C} {A0 : Nat → Prop} {H0 : Heap} {w0 wc wr : va_W} {tys tys' : List (ClassId × FieldType)} {fs : List Value} {q : vw_C}
/-- an instance method that answers an int -/
theorem cc_Vi {S : Type} {post : Int32 → S → Prop} {WW : S → va_W} (S9 : CallFix p m c cc nL s args Ts own) (hP : va_P D cl w0 H) (hD : va_D A0 w0) (hK : va_K D cl tys s) (hS : va_S A0 H0 H locs) (hA : ∀ q, H0.size ≤ q → A0 q)
    (isC isR isK : List Nat) (hC : isC.map (fun i => w0[i]?) = wc.map some) (hC2 : isC.filterMap (fun i => w0[i]?) = wc) (hR : isR.map (fun i => w0[i]?) = wr.map some) (hn : va_nd isR = true) (hnc : va_nd isC = true) (hdis : ∀ i ∈ isR, i ∉ isC) (hKs : isK.filterMap (fun i => tys[i]?) = tys')
    (hM : Met l y ws rm (va_Pc (.ref b :: As) (cc_P D cl wc tys' H.size)) (va_Qi post (fun u t => cc_B D cl tys' (va_A wc H.size) (WW u) t) (va_A wc H.size)) mc ms (va_A wc H.size))
    (cw : CallW R s args own C index y bytes maxL ret ws rm mc ms n) (q0 ci : Nat) (hc : cl[ci]? = some q) (hq : q.1 = C) (he : wc[q0]? = some (b, .inr (ci, fs)))
    (hn2 : As.length = n) (hsize : ls.size = nL) (hst : st0 = As.reverse ++ .ref b :: rest) (hW : (rest.map fun v => v.category).sum ≤ 8) (hdg : decode cc pc = .ok (.invokevirtual index, 3)) (hf : cells + mc ≤ R.cells ∧ slots + ms ≤ R.slots)
    (kk : ∀ (r : Int32) (u : S) (H1 : Heap) (locs1 : List Loc), post r u → va_P D cl (wr ++ WW u) H1 → va_D A0 (wr ++ WW u) → va_S A0 H0 H1 locs1 → W p l e R s m args below meth c H1 locs1 (cells + mc) (slots + ms) Q (F0 m (pc + 3) ls (.int r :: rest))) :
    W p l e R s m args below meth c H locs cells slots Q (F0 m pc ls st0) := by
  have hPc := hP.sub (ws' := wc) isC hC2
  have hDc := hD.sub (ws' := wc) isC hnc hC
  have hKc := hK.sub (tys' := tys') isK hKs
  have hFc := va_free (wc := wc) hD hS hA isC hC
  have hrec := va_recv hKc hPc hc he
  rw [hq] at hrec
  refine va_calli (va_runV (As := As) (rest := rest) S9 hM cw ⟨cc_blind, hrec, cc_pre hPc hKc hDc⟩ rfl hn2 hsize hst (lv_room hW) hdg hf) hS (fun q _ h => hFc q h) hFc (fun r u t H1 locs1 ht hvm hw hB hz1 hk1 hS1 => ?_)
  obtain ⟨hP1, hK1, hD1⟩ := hB
  rw [ht] at hP1
  obtain ⟨hP2, hD2⟩ := va_join (wr := wr) (w1 := WW u) hP hD isC isR hC hR hn hdis hk1 hFc hP1 hD1
  exact kk r u H1 locs1 hw hP2 hD2 hS1
/-- an instance method without an answer -/
theorem cc_Vv {S : Type} {post : S → Prop} {WW : S → va_W} (S9 : CallFix p m c cc nL s args Ts own) (hP : va_P D cl w0 H) (hD : va_D A0 w0) (hK : va_K D cl tys s) (hS : va_S A0 H0 H locs) (hA : ∀ q, H0.size ≤ q → A0 q)
    (isC isR isK : List Nat) (hC : isC.map (fun i => w0[i]?) = wc.map some) (hC2 : isC.filterMap (fun i => w0[i]?) = wc) (hR : isR.map (fun i => w0[i]?) = wr.map some) (hn : va_nd isR = true) (hnc : va_nd isC = true) (hdis : ∀ i ∈ isR, i ∉ isC) (hKs : isK.filterMap (fun i => tys[i]?) = tys')
    (hM : Met l y ws rm (va_Pc (.ref b :: As) (cc_P D cl wc tys' H.size)) (va_Qv post (fun u t => cc_B D cl tys' (va_A wc H.size) (WW u) t) (va_A wc H.size)) mc ms (va_A wc H.size))
    (cw : CallW R s args own C index y bytes maxL ret ws rm mc ms n) (q0 ci : Nat) (hc : cl[ci]? = some q) (hq : q.1 = C) (he : wc[q0]? = some (b, .inr (ci, fs)))
    (hn2 : As.length = n) (hsize : ls.size = nL) (hst : st0 = As.reverse ++ .ref b :: rest) (hW : (rest.map fun v => v.category).sum ≤ 8) (hdg : decode cc pc = .ok (.invokevirtual index, 3)) (hf : cells + mc ≤ R.cells ∧ slots + ms ≤ R.slots)
    (kk : ∀ (u : S) (H1 : Heap) (locs1 : List Loc), post u → va_P D cl (wr ++ WW u) H1 → va_D A0 (wr ++ WW u) → va_S A0 H0 H1 locs1 → W p l e R s m args below meth c H1 locs1 (cells + mc) (slots + ms) Q (F0 m (pc + 3) ls rest)) :
    W p l e R s m args below meth c H locs cells slots Q (F0 m pc ls st0) := by
  have hPc := hP.sub (ws' := wc) isC hC2
  have hDc := hD.sub (ws' := wc) isC hnc hC
  have hKc := hK.sub (tys' := tys') isK hKs
  have hFc := va_free (wc := wc) hD hS hA isC hC
  have hrec := va_recv hKc hPc hc he
  rw [hq] at hrec
  refine va_callv (va_runV (As := As) (rest := rest) S9 hM cw ⟨cc_blind, hrec, cc_pre hPc hKc hDc⟩ rfl hn2 hsize hst (lv_room hW) hdg hf) hS (fun q _ h => hFc q h) hFc (fun u t H1 locs1 ht hvm hw hB hz1 hk1 hS1 => ?_)
  obtain ⟨hP1, hK1, hD1⟩ := hB
  rw [ht] at hP1
  obtain ⟨hP2, hD2⟩ := va_join (wr := wr) (w1 := WW u) hP hD isC isR hC hR hn hdis hk1 hFc hP1 hD1
  exact kk u H1 locs1 hw hP2 hD2 hS1
/-- a static method that answers an int -/
theorem cc_Si {S : Type} {post : Int32 → S → Prop} {WW : S → va_W} (S9 : CallFix p m c cc nL s args Ts own) (hP : va_P D cl w0 H) (hD : va_D A0 w0) (hK : va_K D cl tys s) (hS : va_S A0 H0 H locs) (hA : ∀ q, H0.size ≤ q → A0 q)
    (isC isR isK : List Nat) (hC : isC.map (fun i => w0[i]?) = wc.map some) (hC2 : isC.filterMap (fun i => w0[i]?) = wc) (hR : isR.map (fun i => w0[i]?) = wr.map some) (hn : va_nd isR = true) (hnc : va_nd isC = true) (hdis : ∀ i ∈ isR, i ∉ isC) (hKs : isK.filterMap (fun i => tys[i]?) = tys')
    (hM : Met l y ws rm (va_Pc As (cc_P D cl wc tys' H.size)) (va_Qi post (fun u t => cc_B D cl tys' (va_A wc H.size) (WW u) t) (va_A wc H.size)) mc ms (va_A wc H.size))
    (cw : CallB R s args own index y bytes maxL ret ws rm mc ms n ∧ (Cond.static y).before args s = true)
    (hn2 : As.length = n) (hsize : ls.size = nL) (hst : st0 = As.reverse ++ rest) (hW : (rest.map fun v => v.category).sum ≤ 8) (hdg : decode cc pc = .ok (.invokestatic index, 3)) (hf : cells + mc ≤ R.cells ∧ slots + ms ≤ R.slots)
    (kk : ∀ (r : Int32) (u : S) (H1 : Heap) (locs1 : List Loc), post r u → va_P D cl (wr ++ WW u) H1 → va_D A0 (wr ++ WW u) → va_S A0 H0 H1 locs1 → W p l e R s m args below meth c H1 locs1 (cells + mc) (slots + ms) Q (F0 m (pc + 3) ls (.int r :: rest))) :
    W p l e R s m args below meth c H locs cells slots Q (F0 m pc ls st0) := by
  have hPc := hP.sub (ws' := wc) isC hC2
  have hDc := hD.sub (ws' := wc) isC hnc hC
  have hKc := hK.sub (tys' := tys') isK hKs
  have hFc := va_free (wc := wc) hD hS hA isC hC
  refine va_calli (va_runS (As := As) (rest := rest) S9 hM cw ⟨cc_blind, cc_pre hPc hKc hDc⟩ rfl hn2 hsize hst (lv_room hW) hdg hf) hS (fun q _ h => hFc q h) hFc (fun r u t H1 locs1 ht hvm hw hB hz1 hk1 hS1 => ?_)
  obtain ⟨hP1, hK1, hD1⟩ := hB
  rw [ht] at hP1
  obtain ⟨hP2, hD2⟩ := va_join (wr := wr) (w1 := WW u) hP hD isC isR hC hR hn hdis hk1 hFc hP1 hD1
  exact kk r u H1 locs1 hw hP2 hD2 hS1
/-- a static method without an answer -/
theorem cc_Sv {S : Type} {post : S → Prop} {WW : S → va_W} (S9 : CallFix p m c cc nL s args Ts own) (hP : va_P D cl w0 H) (hD : va_D A0 w0) (hK : va_K D cl tys s) (hS : va_S A0 H0 H locs) (hA : ∀ q, H0.size ≤ q → A0 q)
    (isC isR isK : List Nat) (hC : isC.map (fun i => w0[i]?) = wc.map some) (hC2 : isC.filterMap (fun i => w0[i]?) = wc) (hR : isR.map (fun i => w0[i]?) = wr.map some) (hn : va_nd isR = true) (hnc : va_nd isC = true) (hdis : ∀ i ∈ isR, i ∉ isC) (hKs : isK.filterMap (fun i => tys[i]?) = tys')
    (hM : Met l y ws rm (va_Pc As (cc_P D cl wc tys' H.size)) (va_Qv post (fun u t => cc_B D cl tys' (va_A wc H.size) (WW u) t) (va_A wc H.size)) mc ms (va_A wc H.size))
    (cw : CallB R s args own index y bytes maxL ret ws rm mc ms n ∧ (Cond.static y).before args s = true)
    (hn2 : As.length = n) (hsize : ls.size = nL) (hst : st0 = As.reverse ++ rest) (hW : (rest.map fun v => v.category).sum ≤ 8) (hdg : decode cc pc = .ok (.invokestatic index, 3)) (hf : cells + mc ≤ R.cells ∧ slots + ms ≤ R.slots)
    (kk : ∀ (u : S) (H1 : Heap) (locs1 : List Loc), post u → va_P D cl (wr ++ WW u) H1 → va_D A0 (wr ++ WW u) → va_S A0 H0 H1 locs1 → W p l e R s m args below meth c H1 locs1 (cells + mc) (slots + ms) Q (F0 m (pc + 3) ls rest)) :
    W p l e R s m args below meth c H locs cells slots Q (F0 m pc ls st0) := by
  have hPc := hP.sub (ws' := wc) isC hC2
  have hDc := hD.sub (ws' := wc) isC hnc hC
  have hKc := hK.sub (tys' := tys') isK hKs
  have hFc := va_free (wc := wc) hD hS hA isC hC
  refine va_callv (va_runS (As := As) (rest := rest) S9 hM cw ⟨cc_blind, cc_pre hPc hKc hDc⟩ rfl hn2 hsize hst (lv_room hW) hdg hf) hS (fun q _ h => hFc q h) hFc (fun u t H1 locs1 ht hvm hw hB hz1 hk1 hS1 => ?_)
  obtain ⟨hP1, hK1, hD1⟩ := hB
  rw [ht] at hP1
  obtain ⟨hP2, hD2⟩ := va_join (wr := wr) (w1 := WW u) hP hD isC isR hC hR hn hdis hk1 hFc hP1 hD1
  exact kk u H1 locs1 hw hP2 hD2 hS1
/-- the frame's goal by a name, so that a row of a walk may be proved apart -/
theorem cc_gen {g : JFrame} (h : ∀ G : Heap → List Loc → JFrame → Prop, G = (fun H locs g => W p l e R s m args below meth c H locs cells slots Q g) → G H locs g) : W p l e R s m args below meth c H locs cells slots Q g := h _ rfl
end CC
section CD
variable {p : Program} {l : Launch} {e : Env} {R : Room} {s : State} {m : MethodId} {args : Array Value} {below : List Frame} {meth : Method} {c : Code} {H H0 : Heap} {locs : List Loc} {cells slots : Nat} {Q : State → Prop} {D : va_G} {cl : List vw_C} {A : Nat → Prop} {ws : va_W}
/-- the heap by a name: a loop's head -/
theorem cc_from {g : JFrame} (hP : va_P D cl ws H) (hD : va_D A ws) (hS : va_S A H0 H locs) (k : ∀ (H1 : Heap) (locs1 : List Loc), va_P D cl ws H1 → va_D A ws → va_S A H0 H1 locs1 → W p l e R s m args below meth c H1 locs1 cells slots Q g) : W p l e R s m args below meth c H locs cells slots Q g := k H locs hP hD hS
end CD
