/-! Strings: how they are asked -/
def sP (D : va_G) (y : Nat → ClassId) (ws : va_W) (sz : Nat) (av : List Value) (a ln : Nat) (t : Nat → Nat) : Array Value → State → Prop := va_Pc av (fun U => U.heap.size = sz ∧ va_P D vwCl ws U.heap ∧ va_K D vwCl (tyl y) U ∧ va_D (fun _ => True) ws ∧ jdZ (va_A ws sz) U U.heap ∧ strC a ln t (va_A ws sz) U U.heap)
theorem sP_blind {D : va_G} {y : Nat → ClassId} {ws : va_W} {sz : Nat} {av : List Value} {a ln : Nat} {t : Nat → Nat} : FrameBlind (sP D y ws sz av a ln t) := fun a U g mk q => ⟨q.1, q.2.1, q.2.2.1, va_K.moved (u := U) (U := U.calling g mk a) (Vm.Alike.refl U.vm) q.2.2.2.1, q.2.2.2.2.1, jdZ.moved (u := U) (U := U.calling g mk a) (Vm.Alike.refl U.vm) q.2.2.2.2.2.1, strC.moved (u := U) (U := U.calling g mk a) (Vm.Alike.refl U.vm) q.2.2.2.2.2.2⟩
section MYSTR
variable {p : Program} {l : Launch} {e : Env} {R : Room} {s : State} {m : MethodId} {args : Array Value} {below : List Frame} {meth : Method} {c : Code} {H : Heap} {locs : List Loc} {cells slots : Nat} {Q : State → Prop}
variable {D : va_G} {yy : Nat → ClassId} {V wc wr w0 ws : va_W} {S : Type} {post : S → Prop} {W1 : S → va_W} {ad : S → Nat} {x y : MethodName} {bytes cc : ByteArray} {maxL nL n index N ci b mc ms : Nat} {ret rt : Option FieldType} {wsy : List Cond} {rm : Room} {Ts : List Cond} {own C owner : String} {T : u_T} {fs As rest st0 : List Value} {pc : Nat} {ls : Array Slot} {A : Nat → Prop} {r : Int32}
variable {sa sn : Nat} {tt : Nat → Nat}
theorem cs_pre (hK : va_K D vwCl (tyl yy) s) (hP : va_P D vwCl V H) (hD : va_D A V) (hS : va_S A s.heap H locs) (hA : ∀ q, s.heap.size ≤ q → A q) (hJ : jdZ A s s.heap) (hX : strC sa sn tt A s s.heap) (is : List Nat) (hni : va_nd is = true) (hC : is.map (fun i => V[i]?) = wc.map some) (av : List Value) : FrameBlind (sP D yy wc H.size av sa sn tt) ∧ ∀ U : State, U.heap = H → s.WarmedH U.vm → sP D yy wc H.size av sa sn tt av.toArray U :=
  ⟨sP_blind, fun U hU hW => ⟨rfl, by rw [hU], by rw [hU]; exact hP.sub is (pick_map hC), va_K.moved hW.alike hK, (hD.sub is hni hC).weaken (fun _ _ _ _ => trivial), by rw [hU]; exact ((hJ.kept hS.2.1).narrow (va_free (wc := wc) hD hS hA is hC)).moved hW.alike, by rw [hU]; exact ((hX.kept hS.2.1).narrow (va_free (wc := wc) hD hS hA is hC)).moved hW.alike⟩⟩
theorem str_recv (hX : strC sa sn tt A s s.heap) (hS : va_S A s.heap H locs) : ∃ cell : Cell, H[sa]? = some cell ∧ cell.vm.isStatics = false ∧ s.vm.findClass "java/lang/String" = some cell.cls := by
  obtain ⟨t0, h1, -⟩ := hX
  obtain ⟨cell, h1, h2, h3, -⟩ := h1.kept hS.2.1
  exact ⟨cell, h1, h2, h3⟩
theorem cs_Vr (S0 : CallFix p m c cc nL s args Ts own) (hM : Met l y wsy rm (sP D yy wc H.size (.ref b :: As) sa sn tt) (wQur D yy ad post W1 wc H.size) mc ms (va_A wc H.size)) (cw : CallW R s args own C index y bytes maxL ret wsy rm mc ms n) (hK : va_K D vwCl (tyl yy) s) (hP : va_P D vwCl V H) (hD : va_D A V) (hS : va_S A s.heap H locs) (hA : ∀ q, s.heap.size ≤ q → A q) (hJ : jdZ A s s.heap) (hX : strC sa sn tt A s s.heap)
    (is isR : List Nat) (hni : va_nd is = true) (hC : is.map (fun i => V[i]?) = wc.map some) (hR : isR.map (fun i => V[i]?) = wr.map some) (hnR : va_nd isR = true) (hdis : ∀ i ∈ isR, i ∉ is) (he : wc[0]? = some (b, .inr (ci, fs))) (hc : vwCl[ci]? = some (C, T, N))
    (hn : As.length = n) (hsize : ls.size = nL) (hst : st0 = As.reverse ++ .ref b :: rest) (hW : (rest.map fun v => v.category).sum ≤ 8) (hdg : decode cc pc = .ok (.invokevirtual index, 3)) (hf : cells + mc ≤ R.cells ∧ slots + ms ≤ R.slots)
    (kk : ∀ (u : S) (H1 : Heap) (locs1 : List Loc), post u → va_P D vwCl (wr ++ W1 u) H1 → va_D A (wr ++ W1 u) → va_S A s.heap H1 locs1 → W p l e R s m args below meth c H1 locs1 (cells + mc) (slots + ms) Q (F0 m (pc + 3) ls (.ref (ad u) :: rest))) : W p l e R s m args below meth c H locs cells slots Q (F0 m pc ls st0) := by
  have hpre := cs_pre hK hP hD hS hA hJ hX is hni hC (.ref b :: As)
  have hF := va_free (wc := wc) hD hS hA is hC
  refine va_callr (va_runV S0 hM cw ⟨hpre.1, va_recv hK (hP.sub is (pick_map hC)) hc he, hpre.2⟩ rfl hn hsize hst (lv_room (ls := ls) (rest := st0) (pc := pc) (m := m) hW) hdg hf) hS (fun q _ h => hF q h) hF (fun u ra t H1 locs1 ht hvm hw hB hz1 hk1 hS => ?_)
  obtain ⟨rfl, hP1, hK1, hD1⟩ := hB
  rw [ht] at hP1
  obtain ⟨hP2, hD2⟩ := va_join hP hD is isR hC hR hnR hdis hk1 hF hP1 hD1
  exact kk u H1 locs1 hw hP2 hD2 hS
theorem cs_Uv (S0 : CallFix p m c cc nL s args Ts own) (hM : Met l y wsy rm (sP D yy wc H.size (.ref b :: As) sa sn tt) (wQuv D yy post W1 wc H.size) mc ms (va_A wc H.size)) (cw : va_CU R s args own C owner index x y bytes maxL ret wsy rm mc ms n) (hK : va_K D vwCl (tyl yy) s) (hP : va_P D vwCl V H) (hD : va_D A V) (hS : va_S A s.heap H locs) (hA : ∀ q, s.heap.size ≤ q → A q) (hJ : jdZ A s s.heap) (hX : strC sa sn tt A s s.heap)
    (is isR : List Nat) (hni : va_nd is = true) (hC : is.map (fun i => V[i]?) = wc.map some) (hR : isR.map (fun i => V[i]?) = wr.map some) (hnR : va_nd isR = true) (hdis : ∀ i ∈ isR, i ∉ is) (he : wc[0]? = some (b, .inr (ci, fs))) (hc : vwCl[ci]? = some (C, T, N))
    (hn : As.length = n) (hsize : ls.size = nL) (hst : st0 = As.reverse ++ .ref b :: rest) (hW : (rest.map fun v => v.category).sum ≤ 8) (hdg : decode cc pc = .ok (.invokevirtual index, 3)) (hf : cells + mc ≤ R.cells ∧ slots + ms ≤ R.slots)
    (kk : ∀ (u : S) (H1 : Heap) (locs1 : List Loc), post u → va_P D vwCl (wr ++ W1 u) H1 → va_D A (wr ++ W1 u) → va_S A s.heap H1 locs1 → W p l e R s m args below meth c H1 locs1 (cells + mc) (slots + ms) Q (F0 m (pc + 3) ls rest)) : W p l e R s m args below meth c H locs cells slots Q (F0 m pc ls st0) := by
  have hpre := cs_pre hK hP hD hS hA hJ hX is hni hC (.ref b :: As)
  have hF := va_free (wc := wc) hD hS hA is hC
  refine va_callv (va_runU S0 hM cw ⟨hpre.1, va_recv hK (hP.sub is (pick_map hC)) hc he, hpre.2⟩ rfl hn hsize hst (lv_room (ls := ls) (rest := st0) (pc := pc) (m := m) hW) hdg hf) hS (fun q _ h => hF q h) hF (fun u t H1 locs1 ht hvm hw hB hz1 hk1 hS => ?_)
  obtain ⟨hP1, hK1, hD1⟩ := hB
  rw [ht] at hP1
  obtain ⟨hP2, hD2⟩ := va_join hP hD is isR hC hR hnR hdis hk1 hF hP1 hD1
  exact kk u H1 locs1 hw hP2 hD2 hS
theorem cs_Ur (S0 : CallFix p m c cc nL s args Ts own) (hM : Met l y wsy rm (sP D yy wc H.size (.ref b :: As) sa sn tt) (wQur D yy ad post W1 wc H.size) mc ms (va_A wc H.size)) (cw : va_CU R s args own C owner index x y bytes maxL ret wsy rm mc ms n) (hK : va_K D vwCl (tyl yy) s) (hP : va_P D vwCl V H) (hD : va_D A V) (hS : va_S A s.heap H locs) (hA : ∀ q, s.heap.size ≤ q → A q) (hJ : jdZ A s s.heap) (hX : strC sa sn tt A s s.heap)
    (is isR : List Nat) (hni : va_nd is = true) (hC : is.map (fun i => V[i]?) = wc.map some) (hR : isR.map (fun i => V[i]?) = wr.map some) (hnR : va_nd isR = true) (hdis : ∀ i ∈ isR, i ∉ is) (he : wc[0]? = some (b, .inr (ci, fs))) (hc : vwCl[ci]? = some (C, T, N))
    (hn : As.length = n) (hsize : ls.size = nL) (hst : st0 = As.reverse ++ .ref b :: rest) (hW : (rest.map fun v => v.category).sum ≤ 8) (hdg : decode cc pc = .ok (.invokevirtual index, 3)) (hf : cells + mc ≤ R.cells ∧ slots + ms ≤ R.slots)
    (kk : ∀ (u : S) (H1 : Heap) (locs1 : List Loc), post u → va_P D vwCl (wr ++ W1 u) H1 → va_D A (wr ++ W1 u) → va_S A s.heap H1 locs1 → W p l e R s m args below meth c H1 locs1 (cells + mc) (slots + ms) Q (F0 m (pc + 3) ls (.ref (ad u) :: rest))) : W p l e R s m args below meth c H locs cells slots Q (F0 m pc ls st0) := by
  have hpre := cs_pre hK hP hD hS hA hJ hX is hni hC (.ref b :: As)
  have hF := va_free (wc := wc) hD hS hA is hC
  refine va_callr (va_runU S0 hM cw ⟨hpre.1, va_recv hK (hP.sub is (pick_map hC)) hc he, hpre.2⟩ rfl hn hsize hst (lv_room (ls := ls) (rest := st0) (pc := pc) (m := m) hW) hdg hf) hS (fun q _ h => hF q h) hF (fun u ra t H1 locs1 ht hvm hw hB hz1 hk1 hS => ?_)
  obtain ⟨rfl, hP1, hK1, hD1⟩ := hB
  rw [ht] at hP1
  obtain ⟨hP2, hD2⟩ := va_join hP hD is isR hC hR hnR hdis hk1 hF hP1 hD1
  exact kk u H1 locs1 hw hP2 hD2 hS
theorem cs_Wr (S0 : CallFix p m c cc nL s args Ts own) (hM : Met l y wsy rm (sP D yy wc H.size (.ref b :: As) sa sn tt) (wQur D yy ad post W1 wc H.size) mc ms (va_A wc H.size)) (cw : va_CS R s args own index y bytes maxL ret wsy rm mc ms n) (hK : va_K D vwCl (tyl yy) s) (hP : va_P D vwCl V H) (hD : va_D A V) (hS : va_S A s.heap H locs) (hA : ∀ q, s.heap.size ≤ q → A q) (hJ : jdZ A s s.heap) (hX : strC sa sn tt A s s.heap)
    (is isR : List Nat) (hni : va_nd is = true) (hC : is.map (fun i => V[i]?) = wc.map some) (hR : isR.map (fun i => V[i]?) = wr.map some) (hnR : va_nd isR = true) (hdis : ∀ i ∈ isR, i ∉ is) (he : wc[0]? = some (b, .inr (ci, fs))) (hc : vwCl[ci]? = some (C, T, N))
    (hn : As.length = n) (hsize : ls.size = nL) (hst : st0 = As.reverse ++ .ref b :: rest) (hW : (rest.map fun v => v.category).sum ≤ 8) (hdg : decode cc pc = .ok (.invokespecial index, 3)) (hf : cells + mc ≤ R.cells ∧ slots + ms ≤ R.slots)
    (kk : ∀ (u : S) (H1 : Heap) (locs1 : List Loc), post u → va_P D vwCl (wr ++ W1 u) H1 → va_D A (wr ++ W1 u) → va_S A s.heap H1 locs1 → W p l e R s m args below meth c H1 locs1 (cells + mc) (slots + ms) Q (F0 m (pc + 3) ls (.ref (ad u) :: rest))) : W p l e R s m args below meth c H locs cells slots Q (F0 m pc ls st0) := by
  have hpre := cs_pre hK hP hD hS hA hJ hX is hni hC (.ref b :: As)
  have hF := va_free (wc := wc) hD hS hA is hC
  refine va_callr (va_runSU (hK.1 ci _ hc).2 S0 hM cw ⟨hpre.1, va_recv hK (hP.sub is (pick_map hC)) hc he, hpre.2⟩ rfl hn hsize hst (lv_room (ls := ls) (rest := st0) (pc := pc) (m := m) hW) hdg hf) hS (fun q _ h => hF q h) hF (fun u ra t H1 locs1 ht hvm hw hB hz1 hk1 hS => ?_)
  obtain ⟨rfl, hP1, hK1, hD1⟩ := hB
  rw [ht] at hP1
  obtain ⟨hP2, hD2⟩ := va_join hP hD is isR hC hR hnR hdis hk1 hF hP1 hD1
  exact kk u H1 locs1 hw hP2 hD2 hS
theorem ct_Vv (S0 : CallFix p m c cc nL s args Ts own) (hM : Met l y wsy rm (sP D yy wc H.size (.ref sa :: As) sa sn tt) (wQuv D yy post W1 wc H.size) mc ms (va_A wc H.size)) (cw : CallW R s args own "java/lang/String" index y bytes maxL ret wsy rm mc ms n) (hK : va_K D vwCl (tyl yy) s) (hP : va_P D vwCl V H) (hD : va_D A V) (hS : va_S A s.heap H locs) (hA : ∀ q, s.heap.size ≤ q → A q) (hJ : jdZ A s s.heap) (hX : strC sa sn tt A s s.heap)
    (is isR : List Nat) (hni : va_nd is = true) (hC : is.map (fun i => V[i]?) = wc.map some) (hR : isR.map (fun i => V[i]?) = wr.map some) (hnR : va_nd isR = true) (hdis : ∀ i ∈ isR, i ∉ is)
    (hn : As.length = n) (hsize : ls.size = nL) (hst : st0 = As.reverse ++ .ref sa :: rest) (hW : (rest.map fun v => v.category).sum ≤ 8) (hdg : decode cc pc = .ok (.invokevirtual index, 3)) (hf : cells + mc ≤ R.cells ∧ slots + ms ≤ R.slots)
    (kk : ∀ (u : S) (H1 : Heap) (locs1 : List Loc), post u → va_P D vwCl (wr ++ W1 u) H1 → va_D A (wr ++ W1 u) → va_S A s.heap H1 locs1 → W p l e R s m args below meth c H1 locs1 (cells + mc) (slots + ms) Q (F0 m (pc + 3) ls rest)) : W p l e R s m args below meth c H locs cells slots Q (F0 m pc ls st0) := by
  have hpre := cs_pre hK hP hD hS hA hJ hX is hni hC (.ref sa :: As)
  have hF := va_free (wc := wc) hD hS hA is hC
  refine va_callv (va_runV S0 hM cw ⟨hpre.1, str_recv hX hS, hpre.2⟩ rfl hn hsize hst (lv_room (ls := ls) (rest := st0) (pc := pc) (m := m) hW) hdg hf) hS (fun q _ h => hF q h) hF (fun u t H1 locs1 ht hvm hw hB hz1 hk1 hS => ?_)
  obtain ⟨hP1, hK1, hD1⟩ := hB
  rw [ht] at hP1
  obtain ⟨hP2, hD2⟩ := va_join hP hD is isR hC hR hnR hdis hk1 hF hP1 hD1
  exact kk u H1 locs1 hw hP2 hD2 hS
theorem ct_Vi (S0 : CallFix p m c cc nL s args Ts own) (hM : Met l y wsy rm (sP D yy wc H.size (.ref sa :: As) sa sn tt) (wQui D yy r post W1 wc H.size) mc ms (va_A wc H.size)) (cw : CallW R s args own "java/lang/String" index y bytes maxL ret wsy rm mc ms n) (hK : va_K D vwCl (tyl yy) s) (hP : va_P D vwCl V H) (hD : va_D A V) (hS : va_S A s.heap H locs) (hA : ∀ q, s.heap.size ≤ q → A q) (hJ : jdZ A s s.heap) (hX : strC sa sn tt A s s.heap)
    (is isR : List Nat) (hni : va_nd is = true) (hC : is.map (fun i => V[i]?) = wc.map some) (hR : isR.map (fun i => V[i]?) = wr.map some) (hnR : va_nd isR = true) (hdis : ∀ i ∈ isR, i ∉ is)
    (hn : As.length = n) (hsize : ls.size = nL) (hst : st0 = As.reverse ++ .ref sa :: rest) (hW : (rest.map fun v => v.category).sum ≤ 8) (hdg : decode cc pc = .ok (.invokevirtual index, 3)) (hf : cells + mc ≤ R.cells ∧ slots + ms ≤ R.slots)
    (kk : ∀ (u : S) (H1 : Heap) (locs1 : List Loc), post u → va_P D vwCl (wr ++ W1 u) H1 → va_D A (wr ++ W1 u) → va_S A s.heap H1 locs1 → W p l e R s m args below meth c H1 locs1 (cells + mc) (slots + ms) Q (F0 m (pc + 3) ls (.int r :: rest))) : W p l e R s m args below meth c H locs cells slots Q (F0 m pc ls st0) := by
  have hpre := cs_pre hK hP hD hS hA hJ hX is hni hC (.ref sa :: As)
  have hF := va_free (wc := wc) hD hS hA is hC
  refine va_calli (va_runV S0 hM cw ⟨hpre.1, str_recv hX hS, hpre.2⟩ rfl hn hsize hst (lv_room (ls := ls) (rest := st0) (pc := pc) (m := m) hW) hdg hf) hS (fun q _ h => hF q h) hF (fun r' u t H1 locs1 ht hvm hw hB hz1 hk1 hS => ?_)
  obtain ⟨hP1, hK1, hD1⟩ := hB
  obtain ⟨rfl, hw⟩ := hw
  rw [ht] at hP1
  obtain ⟨hP2, hD2⟩ := va_join hP hD is isR hC hR hnR hdis hk1 hF hP1 hD1
  exact kk u H1 locs1 hw hP2 hD2 hS
end MYSTR
