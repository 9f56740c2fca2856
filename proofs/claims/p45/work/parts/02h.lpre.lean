/-! the law's methods with handlers: what they ask, how they are called -/
def ncs : List (String × String) := [("java/util/NoSuchElementException", "java/lang/IllegalArgumentException"), ("java/lang/IllegalArgumentException", "java/lang/IndexOutOfBoundsException"), ("java/util/NoSuchElementException", "java/lang/IndexOutOfBoundsException"), ("java/lang/UnsupportedOperationException", "java/lang/IllegalArgumentException")]
def ncP (U : State) : Prop := ∀ q ∈ ncs, va_Nc q.1 q.2 U
theorem ncP.moved {u U : State} (hvm : u.vm.Alike U.vm) (h : ncP u) : ncP U := fun q hq => va_Nc.moved hvm (h q hq)
def lrP (D : va_G) (y : Nat → ClassId) (ws : va_W) (sz : Nat) (av : List Value) : Array Value → State → Prop := va_Pc av (fun U => U.heap.size = sz ∧ va_P D vwCl ws U.heap ∧ va_K D vwCl (tyl y) U ∧ va_D (fun _ => True) ws ∧ thrZ (va_A ws sz) U U.heap ∧ ncP U)
theorem lrP_blind {D : va_G} {y : Nat → ClassId} {ws : va_W} {sz : Nat} {av : List Value} : FrameBlind (lrP D y ws sz av) := fun a U g mk q => ⟨q.1, q.2.1, q.2.2.1, va_K.moved (u := U) (U := U.calling g mk a) (Vm.Alike.refl U.vm) q.2.2.2.1, q.2.2.2.2.1, thrZ.moved (u := U) (U := U.calling g mk a) (Vm.Alike.refl U.vm) q.2.2.2.2.2.1, ncP.moved (u := U) (U := U.calling g mk a) (Vm.Alike.refl U.vm) q.2.2.2.2.2.2⟩
section MYLX
variable {p : Program} {l : Launch} {e : Env} {R : Room} {s : State} {m : MethodId} {args : Array Value} {below : List Frame} {meth : Method} {c : Code} {H : Heap} {locs : List Loc} {cells slots : Nat} {Q : State → Prop}
variable {D : va_G} {yy : Nat → ClassId} {V wc w1 wr : va_W} {y : MethodName} {bytes cc : ByteArray} {maxL nL n index mc ms : Nat} {ret : Option FieldType} {wsy : List Cond} {rm : Room} {Ts : List Cond} {own : String} {As rest st0 : List Value} {r : Int32} {pc : Nat} {ls : Array Slot} {A : Nat → Prop} {hh : List (Nat × Nat × Nat × Nat)}
theorem cl_pre (hK : va_K D vwCl (tyl yy) s) (hP : va_P D vwCl V H) (hD : va_D A V) (hS : va_S A s.heap H locs) (hA : ∀ q, s.heap.size ≤ q → A q) (hZ : thrZ A s s.heap) (hN : ncP s) (is : List Nat) (hni : va_nd is = true) (hC : is.map (fun i => V[i]?) = wc.map some) (av : List Value) : FrameBlind (lrP D yy wc H.size av) ∧ ∀ U : State, U.heap = H → s.WarmedH U.vm → lrP D yy wc H.size av av.toArray U :=
  ⟨lrP_blind, fun U hU hW => ⟨rfl, by rw [hU], by rw [hU]; exact hP.sub is (pick_map hC), va_K.moved hW.alike hK, (hD.sub is hni hC).weaken (fun _ _ _ _ => trivial), by rw [hU]; exact ((hZ.kept hS.2.1).narrow (va_free (wc := wc) hD hS hA is hC)).moved hW.alike, hN.moved hW.alike⟩⟩
theorem cl_Si (S : CallFix p m c cc nL s args Ts own) (hM : vx_Met l y wsy rm (lrP D yy wc H.size As) (xQi D yy 0 r w1 wc H.size) (xX D yy 0 w1 wc H.size) mc ms (va_A wc H.size)) (cw : vx_CSW R s args own index y bytes maxL ret hh wsy rm mc ms n) (hK : va_K D vwCl (tyl yy) s) (hP : va_P D vwCl V H) (hD : va_D A V) (hS : va_S A s.heap H locs) (hA : ∀ q, s.heap.size ≤ q → A q) (hZ : thrZ A s s.heap) (hN : ncP s)
    (is isR : List Nat) (hni : va_nd is = true) (hC : is.map (fun i => V[i]?) = wc.map some) (hR : isR.map (fun i => V[i]?) = wr.map some) (hnR : va_nd isR = true) (hdis : ∀ i ∈ isR, i ∉ is)
    (hn : As.length = n) (hsize : ls.size = nL) (hst : st0 = As.reverse ++ rest) (hW : (rest.map fun v => v.category).sum ≤ 8) (hdg : decode cc pc = .ok (.invokestatic index, 3)) (hf : cells + mc ≤ R.cells ∧ slots + ms ≤ R.slots)
    (kk : ∀ (H1 : Heap) (locs1 : List Loc), va_P D vwCl (wr ++ w1) H1 → va_D A (wr ++ w1) → va_S A s.heap H1 locs1 → W p l e R s m args below meth c H1 locs1 (cells + mc) (slots + ms) Q (F0 m (pc + 3) ls (.int r :: rest))) : W p l e R s m args below meth c H locs cells slots Q (F0 m pc ls st0) := by
  have hpre := cl_pre hK hP hD hS hA hZ hN is hni hC As
  have hF := va_free (wc := wc) hD hS hA is hC
  refine vx_calli (vx_runSX S hM cw ⟨hpre.1, hpre.2⟩ rfl hn hsize hst (lv_room (ls := ls) (rest := st0) (pc := pc) (m := m) hW) hdg hf) hS (fun q _ h => hF q h) hF (fun q _ h => hF q h) (fun E ce q9 u t H1 locs1 ht hvm hk hB hz1 hk1 hS h1 h2 h3 => ?_) (fun v u t H1 locs1 ht hvm hk hB hz1 hk1 hS => ?_)
  · exact absurd rfl hk
  · obtain ⟨hk0, rfl⟩ := hk
    obtain ⟨hP1, hK1, hD1⟩ := hB
    rw [ht] at hP1
    obtain ⟨hP2, hD2⟩ := va_join hP hD is isR hC hR hnR hdis hk1 hF hP1 hD1
    exact kk H1 locs1 hP2 hD2 hS
end MYLX
section MYDF
variable {p : Program} {l : Launch} {e : Env} {R : Room} {s : State} {m : MethodId} {args : Array Value} {below : List Frame} {meth : Method} {c : Code} {H : Heap} {locs : List Loc} {cells slots : Nat} {Q : State → Prop}
variable {D : va_G} {yy : Nat → ClassId} {V wc w0 w1 wr : va_W} {y : MethodName} {bytes cc : ByteArray} {maxL nL n index N ci b mc ms k : Nat} {ret : Option FieldType} {wsy : List Cond} {rm : Room} {Ts : List Cond} {own C : String} {T : u_T} {fs As rest st0 : List Value} {v : Int32} {pc : Nat} {ls : Array Slot} {A : Nat → Prop}
variable {r : UInt64}
theorem cx_Vd (S : CallFix p m c cc nL s args Ts own) (hM : vx_Met l y wsy rm (xrP D yy wc H.size (.ref b :: As)) (xQd D yy k r w1 wc H.size) (xX D yy k w1 wc H.size) mc ms (va_A wc H.size)) (cw : CallW R s args own C index y bytes maxL ret wsy rm mc ms n) (hK : va_K D vwCl (tyl yy) s) (hP : va_P D vwCl V H) (hD : va_D A V) (hS : va_S A s.heap H locs) (hA : ∀ q, s.heap.size ≤ q → A q) (hZ : thrZ A s s.heap)
    (is isR : List Nat) (hni : va_nd is = true) (hC : is.map (fun i => V[i]?) = wc.map some) (hR : isR.map (fun i => V[i]?) = wr.map some) (hnR : va_nd isR = true) (hdis : ∀ i ∈ isR, i ∉ is) (he : wc[0]? = some (b, .inr (ci, fs))) (hc : vwCl[ci]? = some (C, T, N))
    (hn : As.length = n) (hsize : ls.size = nL) (hst : st0 = As.reverse ++ .ref b :: rest) (hW : (rest.map fun v => v.category).sum ≤ 8) (hdg : decode cc pc = .ok (.invokevirtual index, 3)) (hf : cells + mc ≤ R.cells ∧ slots + ms ≤ R.slots)
    (kx : ¬ k = 0 → ∀ (ce : Cell) (q9 : Addr) (H1 : Heap) (locs1 : List Loc), va_P D vwCl (wr ++ w1) H1 → va_D A (wr ++ w1) → va_S A s.heap H1 locs1 → H1[q9]? = some ce → ce.vm = .none → s.vm.findClass (exn k) = some ce.cls → vx_W p l e R s m args below meth c H1 locs1 (cells + mc) (slots + ms) Q (F0 m pc ls rest) q9)
    (kk : k = 0 → ∀ (H1 : Heap) (locs1 : List Loc), va_P D vwCl (wr ++ w1) H1 → va_D A (wr ++ w1) → va_S A s.heap H1 locs1 → W p l e R s m args below meth c H1 locs1 (cells + mc) (slots + ms) Q (F0 m (pc + 3) ls (.double r :: rest))) : W p l e R s m args below meth c H locs cells slots Q (F0 m pc ls st0) := by
  have hpre := cx_pre hK hP hD hS hA hZ is hni hC (.ref b :: As)
  have hF := va_free (wc := wc) hD hS hA is hC
  refine vx_calld (vx_runV S hM cw ⟨hpre.1, va_recv hK (hP.sub is (pick_map hC)) hc he, hpre.2⟩ rfl hn hsize hst (lv_room (ls := ls) (rest := st0) (pc := pc) (m := m) hW) hdg hf) hS (fun q _ h => hF q h) hF (fun q _ h => hF q h) (fun E ce q9 u t H1 locs1 ht hvm hk hB hz1 hk1 hS h1 h2 h3 => ?_) (fun r' u t H1 locs1 ht hvm hw hB hz1 hk1 hS => ?_)
  · obtain ⟨hE, hP1, hK1, hD1⟩ := hB
    rw [ht] at hP1
    subst hE
    obtain ⟨hP2, hD2⟩ := va_join hP hD is isR hC hR hnR hdis hk1 hF hP1 hD1
    exact kx hk ce q9 H1 locs1 hP2 hD2 hS h1 h2 h3
  · obtain ⟨hP1, hK1, hD1⟩ := hB
    rw [ht] at hP1
    obtain ⟨hk, hr⟩ := hw
    subst hr
    obtain ⟨hP2, hD2⟩ := va_join hP hD is isR hC hR hnR hdis hk1 hF hP1 hD1
    exact kk hk H1 locs1 hP2 hD2 hS
end MYDF
section MYFF
variable {p : Program} {l : Launch} {e : Env} {R : Room} {s : State} {m : MethodId} {args : Array Value} {below : List Frame} {meth : Method} {c : Code} {H : Heap} {locs : List Loc} {cells slots : Nat} {Q : State → Prop}
variable {D : va_G} {yy : Nat → ClassId} {V wc w0 w1 wr : va_W} {y : MethodName} {bytes cc : ByteArray} {maxL nL n index N ci b mc ms k : Nat} {ret : Option FieldType} {wsy : List Cond} {rm : Room} {Ts : List Cond} {own C : String} {T : u_T} {fs As rest st0 : List Value} {v : Int32} {pc : Nat} {ls : Array Slot} {A : Nat → Prop}
variable {r : UInt32}
theorem cx_Vf (S : CallFix p m c cc nL s args Ts own) (hM : vx_Met l y wsy rm (xrP D yy wc H.size (.ref b :: As)) (xQf D yy k r w1 wc H.size) (xX D yy k w1 wc H.size) mc ms (va_A wc H.size)) (cw : CallW R s args own C index y bytes maxL ret wsy rm mc ms n) (hK : va_K D vwCl (tyl yy) s) (hP : va_P D vwCl V H) (hD : va_D A V) (hS : va_S A s.heap H locs) (hA : ∀ q, s.heap.size ≤ q → A q) (hZ : thrZ A s s.heap)
    (is isR : List Nat) (hni : va_nd is = true) (hC : is.map (fun i => V[i]?) = wc.map some) (hR : isR.map (fun i => V[i]?) = wr.map some) (hnR : va_nd isR = true) (hdis : ∀ i ∈ isR, i ∉ is) (he : wc[0]? = some (b, .inr (ci, fs))) (hc : vwCl[ci]? = some (C, T, N))
    (hn : As.length = n) (hsize : ls.size = nL) (hst : st0 = As.reverse ++ .ref b :: rest) (hW : (rest.map fun v => v.category).sum ≤ 8) (hdg : decode cc pc = .ok (.invokevirtual index, 3)) (hf : cells + mc ≤ R.cells ∧ slots + ms ≤ R.slots)
    (kx : ¬ k = 0 → ∀ (ce : Cell) (q9 : Addr) (H1 : Heap) (locs1 : List Loc), va_P D vwCl (wr ++ w1) H1 → va_D A (wr ++ w1) → va_S A s.heap H1 locs1 → H1[q9]? = some ce → ce.vm = .none → s.vm.findClass (exn k) = some ce.cls → vx_W p l e R s m args below meth c H1 locs1 (cells + mc) (slots + ms) Q (F0 m pc ls rest) q9)
    (kk : k = 0 → ∀ (H1 : Heap) (locs1 : List Loc), va_P D vwCl (wr ++ w1) H1 → va_D A (wr ++ w1) → va_S A s.heap H1 locs1 → W p l e R s m args below meth c H1 locs1 (cells + mc) (slots + ms) Q (F0 m (pc + 3) ls (.float r :: rest))) : W p l e R s m args below meth c H locs cells slots Q (F0 m pc ls st0) := by
  have hpre := cx_pre hK hP hD hS hA hZ is hni hC (.ref b :: As)
  have hF := va_free (wc := wc) hD hS hA is hC
  refine vx_callf (vx_runV S hM cw ⟨hpre.1, va_recv hK (hP.sub is (pick_map hC)) hc he, hpre.2⟩ rfl hn hsize hst (lv_room (ls := ls) (rest := st0) (pc := pc) (m := m) hW) hdg hf) hS (fun q _ h => hF q h) hF (fun q _ h => hF q h) (fun E ce q9 u t H1 locs1 ht hvm hk hB hz1 hk1 hS h1 h2 h3 => ?_) (fun r' u t H1 locs1 ht hvm hw hB hz1 hk1 hS => ?_)
  · obtain ⟨hE, hP1, hK1, hD1⟩ := hB
    rw [ht] at hP1
    subst hE
    obtain ⟨hP2, hD2⟩ := va_join hP hD is isR hC hR hnR hdis hk1 hF hP1 hD1
    exact kx hk ce q9 H1 locs1 hP2 hD2 hS h1 h2 h3
  · obtain ⟨hP1, hK1, hD1⟩ := hB
    rw [ht] at hP1
    obtain ⟨hk, hr⟩ := hw
    subst hr
    obtain ⟨hP2, hD2⟩ := va_join hP hD is isR hC hR hnR hdis hk1 hF hP1 hD1
    exact kk hk H1 locs1 hP2 hD2 hS
end MYFF
theorem vp01 : vp_in (0 : Int32) 1 := vp_in_nI (n := 0) (N := 1) (by decide) (by decide)
