/-! THE LAW'S CALLS: a wrapper with a table, a constructor; what the start gives -/
theorem wl_L_13 : Cond.classLink RL 13 "java/lang/IllegalArgumentException" ∈ zAll := by decide +kernel
theorem wl_L_18 : Cond.classLink RL 18 "java/lang/IndexOutOfBoundsException" ∈ zAll := by decide +kernel
theorem wzb_IAE : Cond.castable "java/lang/IllegalArgumentException" "java/lang/IllegalArgumentException" ∈ zBad := by decide +kernel
theorem wzb_IOOBE : Cond.castable "java/lang/IndexOutOfBoundsException" "java/lang/IndexOutOfBoundsException" ∈ zBad := by decide +kernel
abbrev wXO (h0 h1 h2 o0 : Nat) (cA cB cO : ClassId) (M S : Nat → Int32) (n p : Int32) (fo : Nat → Int64) : va_W := [(h0, .inr (0, [.ref h1, .ref h2, .int n, .int p])), (h1, .inl (cA, 512, .inl M)), (h2, .inl (cB, 512, .inl S)), (o0, .inl (cO, 1, .inr (.inl fo)))]
abbrev tXO (cA cB cO : ClassId) : List (ClassId × FieldType) := [(cA, .int), (cB, .int), (cO, .long)]
section CW
variable {p : Program} {l : Launch} {e : Env} {R : Room} {s : State} {m : MethodId} {args : Array Value} {below : List Frame} {meth : Method} {c : Code} {H : Heap} {locs : List Loc} {cells slots : Nat} {Q : State → Prop}
variable {y : MethodName} {bytes cc : ByteArray} {maxL nL mc ms n index : Nat} {ret : Option FieldType} {ws : List Cond} {rm : Room} {Ts : List Cond} {own C : String} {b : Addr} {As rest st0 : List Value} {pc : Nat} {ls : Array Slot}
variable {D : va_G} {cl : List vw_C} {A0 : Nat → Prop} {H0 : Heap} {w0 wc wr : va_W} {tys tys' : List (ClassId × FieldType)}
/-- a static method with a table of its own -/
theorem cw_Si {S : Type} {post : Int32 → S → Prop} {WW : S → va_W} {hh : List (Nat × Nat × Nat × Nat)} (S9 : CallFix p m c cc nL s args Ts own) (hP : va_P D cl w0 H) (hD : va_D A0 w0) (hK : va_K D cl tys s) (hS : va_S A0 s.heap H locs) (hA : ∀ q, s.heap.size ≤ q → A0 q) (hZ : zThr A0 s s.heap)
    (isC isR isK : List Nat) (hC : isC.map (fun i => w0[i]?) = wc.map some) (hC2 : isC.filterMap (fun i => w0[i]?) = wc) (hR : isR.map (fun i => w0[i]?) = wr.map some) (hn : va_nd isR = true) (hnc : va_nd isC = true) (hdis : ∀ i ∈ isR, i ∉ isC) (hKs : isK.filterMap (fun i => tys[i]?) = tys')
    (hM : Met l y ws rm (va_Pc As (cx_P D cl wc tys' H.size)) (va_Qi post (fun u t => cc_B D cl tys' (va_A wc H.size) (WW u) t) (va_A wc H.size)) mc ms (va_A wc H.size))
    (cw : vx_CSW R s args own index y bytes maxL ret hh ws rm mc ms n)
    (hn2 : As.length = n) (hsize : ls.size = nL) (hst : st0 = As.reverse ++ rest) (hW : (rest.map fun v => v.category).sum ≤ 8) (hdg : decode cc pc = .ok (.invokestatic index, 3)) (hf : cells + mc ≤ R.cells ∧ slots + ms ≤ R.slots)
    (kk : ∀ (r : Int32) (u : S) (H1 : Heap) (locs1 : List Loc), post r u → va_P D cl (wr ++ WW u) H1 → va_D A0 (wr ++ WW u) → va_S A0 s.heap H1 locs1 → W p l e R s m args below meth c H1 locs1 (cells + mc) (slots + ms) Q (F0 m (pc + 3) ls (.int r :: rest))) :
    W p l e R s m args below meth c H locs cells slots Q (F0 m pc ls st0) := by
  have hPc := hP.sub (ws' := wc) isC hC2
  have hDc := hD.sub (ws' := wc) isC hnc hC
  have hKc := hK.sub (tys' := tys') isK hKs
  have hFc := va_free (wc := wc) hD hS hA isC hC
  refine va_calli (vx_runSW (As := As) (rest := rest) S9 hM cw ⟨cx_blind, cx_pre hPc hKc hDc hZ hS hFc⟩ rfl hn2 hsize hst (lv_room hW) hdg hf) hS (fun q _ h => hFc q h) hFc (fun r u t H1 locs1 ht hvm hw hB hz1 hk1 hS1 => ?_)
  obtain ⟨hP1, hK1, hD1⟩ := hB
  rw [ht] at hP1
  obtain ⟨hP2, hD2⟩ := va_join (wr := wr) (w1 := WW u) hP hD isC isR hC hR hn hdis hk1 hFc hP1 hD1
  exact kk r u H1 locs1 hw hP2 hD2 hS1
/-- a constructor: its arrays' classes come with the world -/
theorem cc_I {S : Type} {post : S → Prop} {WW : S → va_W} {TT : S → List (ClassId × FieldType)} (S9 : CallFix p m c cc nL s args Ts own) (hP : va_P D cl w0 H) (hD : va_D A0 w0) (hK : va_K D cl tys s) (hS : va_S A0 H0 H locs) (hA : ∀ q, H0.size ≤ q → A0 q)
    (isC isR isK : List Nat) (hC : isC.map (fun i => w0[i]?) = wc.map some) (hC2 : isC.filterMap (fun i => w0[i]?) = wc) (hR : isR.map (fun i => w0[i]?) = wr.map some) (hn : va_nd isR = true) (hnc : va_nd isC = true) (hdis : ∀ i ∈ isR, i ∉ isC) (hKs : isK.filterMap (fun i => tys[i]?) = tys')
    (hM : Met l y ws rm (va_Pc (.ref b :: As) (cc_P D cl wc tys' H.size)) (va_Qv post (fun u t => cc_B D cl (TT u) (va_A wc H.size) (WW u) t) (va_A wc H.size)) mc ms (va_A wc H.size))
    (cw : CallB R s args own index y bytes maxL none ws rm mc ms n ∧ y.name = "<init>" ∧ (Cond.instanceMethod y).before args s = true)
    (hn2 : As.length = n) (hsize : ls.size = nL) (hst : st0 = As.reverse ++ .ref b :: rest) (hW : (rest.map fun v => v.category).sum ≤ 8) (hdg : decode cc pc = .ok (.invokespecial index, 3)) (hf : cells + mc ≤ R.cells ∧ slots + ms ≤ R.slots)
    (kk : ∀ (u : S) (H1 : Heap) (locs1 : List Loc), post u → va_K D cl (tys ++ TT u) s → va_P D cl (wr ++ WW u) H1 → va_D A0 (wr ++ WW u) → va_S A0 H0 H1 locs1 → W p l e R s m args below meth c H1 locs1 (cells + mc) (slots + ms) Q (F0 m (pc + 3) ls rest)) :
    W p l e R s m args below meth c H locs cells slots Q (F0 m pc ls st0) := by
  have hPc := hP.sub (ws' := wc) isC hC2
  have hDc := hD.sub (ws' := wc) isC hnc hC
  have hKc := hK.sub (tys' := tys') isK hKs
  have hFc := va_free (wc := wc) hD hS hA isC hC
  refine va_callv (va_runI (As := As) (rest := rest) S9 hM cw ⟨cc_blind, cc_pre hPc hKc hDc⟩ rfl hn2 hsize hst (lv_room hW) hdg hf) hS (fun q _ h => hFc q h) hFc (fun u t H1 locs1 ht hvm hw hB hz1 hk1 hS1 => ?_)
  obtain ⟨hP1, hK1, hD1⟩ := hB
  rw [ht] at hP1
  obtain ⟨hP2, hD2⟩ := va_join (wr := wr) (w1 := WW u) hP hD isC isR hC hR hn hdis hk1 hFc hP1 hD1
  exact kk u H1 locs1 hw (hK.app (va_K.moved hvm.symm hK1)) hP2 hD2 hS1
/-- the heap and the room by names: the law's loop -/
theorem cc_from2 {g : JFrame} {ca sa : Nat} (hP : va_P D cl w0 H) (hD : va_D A0 w0) (hS : va_S A0 H0 H locs) (hc : cells ≤ ca) (hs : slots ≤ sa) (k : ∀ (H1 : Heap) (locs1 : List Loc) (c1 s1 : Nat), va_P D cl w0 H1 → va_D A0 w0 → va_S A0 H0 H1 locs1 → c1 ≤ ca → s1 ≤ sa → W p l e R s m args below meth c H1 locs1 c1 s1 Q g) : W p l e R s m args below meth c H locs cells slots Q g := k H locs cells slots hP hD hS hc hs
end CW
theorem z_str {s : State} {b k : Nat} {own tx : String} (h1 : (Cond.stringRef own k tx).before #[Value.ref b] s = true) (h2 : (Cond.exactly (.string own k) "java/lang/String").before #[Value.ref b] s = true) : ∃ a, vk_R own k tx a s := by
  obtain ⟨a, c, cA, kA, q1, q2⟩ := Cond.exactly_spec (args := #[Value.ref b]) (first := s) (o := none) (s := s) (idx := []) h2
  exact ⟨a, vk_R.of h1 q1⟩
theorem zBad_in : ∀ w ∈ zBad, w ∈ lw_tbl := by decide +kernel
theorem zStr_in : ∀ q ∈ zTexts, Cond.stringRef q.1 q.2.1 q.2.2 ∈ lw_tbl := by decide +kernel
theorem zStr_ex : ∀ q ∈ zTexts, Cond.exactly (.string q.1 q.2.1) "java/lang/String" ∈ flatC (Jvm.Cond.and given_1 narrow_1) := by decide +kernel
theorem zThr_0 {s : State} {b : Nat} (hts : ∀ w ∈ lw_tbl, w.before #[Value.ref b] s = true) (hgv : (Jvm.Cond.and given_1 narrow_1).before #[Value.ref b] s = true) : zThr (fun q : Nat => s.heap.size ≤ q) s s.heap := by
  have hs := flat_of_before _ hgv
  have hA : ∀ a : Nat, a < s.heap.size → ¬ (fun q : Nat => s.heap.size ≤ q) a := fun a h => Nat.not_le.mpr h
  refine ⟨fun q hq => z_str (hts _ (zStr_in q hq)) (hs _ (zStr_ex q hq)), fun w hw => va_Nw.of (zBad_on w hw) (hts w (zBad_in w hw)), ?_, ?_⟩
  · exact vx_Zqof (hts _ (by decide +kernel)) (hts _ (by decide +kernel)) (hs _ (by decide +kernel)) hA
  · exact vx_Zqof (hts _ (by decide +kernel)) (hts _ (by decide +kernel)) (hs _ (by decide +kernel)) hA
