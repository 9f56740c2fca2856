/-! exceptions: contracts of methods that may throw, their calls, their ends -/
def exn : Nat → String
  | 1 => "java/lang/IllegalArgumentException"
  | 2 => "java/util/NoSuchElementException"
  | 3 => "java/lang/IndexOutOfBoundsException"
  | 4 => "java/lang/UnsupportedOperationException"
  | 5 => "java/lang/IllegalStateException"
  | _ => "java/lang/ArithmeticException"
def thrYs : List String := ["java/lang/RuntimeException", "java/lang/Exception", Bundle.tN]
def thrEs : List String := ["java/lang/IllegalArgumentException", "java/util/NoSuchElementException", "java/lang/IndexOutOfBoundsException", "java/lang/UnsupportedOperationException", "java/lang/IllegalStateException", "java/lang/ArithmeticException"]
/-- the words of throws that are no good words -/
def thrN (U : State) : Prop := (∀ Y ∈ thrYs, va_Nw (.declares (Bundle.init0 Y)) U) ∧ ∀ E ∈ thrEs, va_Nw (.castable E E) U
theorem thrN.moved {u U : State} (hvm : u.vm.Alike U.vm) (h : thrN u) : thrN U := by
  refine ⟨fun Y hY => ?_, fun E hE => ?_⟩
  · have hZ := h.1 Y hY
    exact va_tabs rfl (rfl : (u.setVm U.vm).vm = U.vm) (by rw [Cond.declares_setVm hvm]; exact hZ)
  · have hZ := h.2 E hE
    exact va_tabs rfl (rfl : (u.setVm U.vm).vm = U.vm) (by rw [Cond.castable_setVm hvm]; exact hZ)
def thrB (cls : String) : List Cond := [.declares (Bundle.init0 "java/lang/RuntimeException"), .declares (Bundle.init0 "java/lang/Exception"), .declares (Bundle.init0 Bundle.tN), .castable cls cls]
theorem thrN.words {args : Array Value} {s : State} {cls : String} (h : thrN s) (hc : cls ∈ thrEs) : ∀ w ∈ thrB cls, w.before args s = true := by
  have h1 := h.1 _ (show "java/lang/RuntimeException" ∈ thrYs from List.mem_cons_self)
  have h2 := h.1 _ (show "java/lang/Exception" ∈ thrYs from List.mem_cons_of_mem _ List.mem_cons_self)
  have h3 := h.1 _ (show Bundle.tN ∈ thrYs from List.mem_cons_of_mem _ (List.mem_cons_of_mem _ List.mem_cons_self))
  have h4 := h.2 _ hc
  exact vx_c (va_Nw.use rfl h1) (vx_c (va_Nw.use rfl h2) (vx_c (va_Nw.use rfl h3) (vx_c (va_Nw.use rfl h4) vx_n)))
def thrZ (A : Nat → Prop) (U : State) (H : Heap) : Prop := vx_Zq Bundle.tN "UNASSIGNED_STACK" Bundle.steD A U H ∧ vx_Zq Bundle.tN "SUPPRESSED_SENTINEL" Bundle.listD A U H ∧ thrN U
theorem thrZ.moved {A : Nat → Prop} {u U : State} {H : Heap} (hvm : u.vm.Alike U.vm) (h : thrZ A u H) : thrZ A U H := ⟨vx_Zq.moved hvm h.1, vx_Zq.moved hvm h.2.1, h.2.2.moved hvm⟩
theorem thrZ.kept {A : Nat → Prop} {U : State} {H H1 : Heap} (h : thrZ A U H) (hq : ∀ a : Nat, a < H.size → ¬ A a → H1[a]? = H[a]?) : thrZ A U H1 := ⟨vx_Zq.kept h.1 hq, vx_Zq.kept h.2.1 hq, h.2.2⟩
theorem thrZ.narrow {A B : Nat → Prop} {U : State} {H : Heap} (h : thrZ A U H) (hAB : ∀ q, B q → A q) : thrZ B U H := ⟨vx_Zq.narrow h.1 hAB, vx_Zq.narrow h.2.1 hAB, h.2.2⟩
def xrP (D : va_G) (y : Nat → ClassId) (ws : va_W) (sz : Nat) (av : List Value) : Array Value → State → Prop := va_Pc av (fun U => U.heap.size = sz ∧ va_P D vwCl ws U.heap ∧ va_K D vwCl (tyl y) U ∧ va_D (fun _ => True) ws ∧ thrZ (va_A ws sz) U U.heap)
theorem xrP_blind {D : va_G} {y : Nat → ClassId} {ws : va_W} {sz : Nat} {av : List Value} : FrameBlind (xrP D y ws sz av) := fun a U g mk q => ⟨q.1, q.2.1, q.2.2.1, va_K.moved (u := U) (U := U.calling g mk a) (Vm.Alike.refl U.vm) q.2.2.2.1, q.2.2.2.2.1, thrZ.moved (u := U) (U := U.calling g mk a) (Vm.Alike.refl U.vm) q.2.2.2.2.2⟩
def xQi (D : va_G) (y : Nat → ClassId) (k : Nat) (r : Int32) (w1 ws : va_W) (sz : Nat) : Array Value → State → Outcome → State → Prop := va_Qi (fun r' (_ : Unit) => k = 0 ∧ r' = r) (fun _ t => wrB D y w1 ws sz t) (va_A ws sz)
def xQd (D : va_G) (y : Nat → ClassId) (k : Nat) (r : UInt64) (w1 ws : va_W) (sz : Nat) : Array Value → State → Outcome → State → Prop := va_Qd (fun r' (_ : Unit) => k = 0 ∧ r' = r) (fun _ t => wrB D y w1 ws sz t) (va_A ws sz)
def xQf (D : va_G) (y : Nat → ClassId) (k : Nat) (r : UInt32) (w1 ws : va_W) (sz : Nat) : Array Value → State → Outcome → State → Prop := va_Qf (fun r' (_ : Unit) => k = 0 ∧ r' = r) (fun _ t => wrB D y w1 ws sz t) (va_A ws sz)
def xQv (D : va_G) (y : Nat → ClassId) (k : Nat) (w1 ws : va_W) (sz : Nat) : Array Value → State → Outcome → State → Prop := va_Qv (fun (_ : Unit) => k = 0) (fun _ t => wrB D y w1 ws sz t) (va_A ws sz)
def xX (D : va_G) (y : Nat → ClassId) (k : Nat) (w1 ws : va_W) (sz : Nat) : String → State → State → Prop := vx_X (fun (_ : Unit) => ¬ k = 0) (fun E _ t => E = exn k ∧ wrB D y w1 ws sz t) (va_A ws sz)
section MYX
variable {p : Program} {l : Launch} {e : Env} {R : Room} {s : State} {m : MethodId} {args : Array Value} {below : List Frame} {meth : Method} {c : Code} {H : Heap} {locs : List Loc} {cells slots : Nat} {Q : State → Prop}
variable {D : va_G} {yy : Nat → ClassId} {V wc w0 w1 wr : va_W} {y : MethodName} {bytes cc : ByteArray} {maxL nL n index N ci b mc ms k : Nat} {ret : Option FieldType} {wsy : List Cond} {rm : Room} {Ts : List Cond} {own C : String} {T : u_T} {fs As rest st0 : List Value} {r v : Int32} {pc : Nat} {ls : Array Slot} {A : Nat → Prop}
theorem cx_pre (hK : va_K D vwCl (tyl yy) s) (hP : va_P D vwCl V H) (hD : va_D A V) (hS : va_S A s.heap H locs) (hA : ∀ q, s.heap.size ≤ q → A q) (hZ : thrZ A s s.heap) (is : List Nat) (hni : va_nd is = true) (hC : is.map (fun i => V[i]?) = wc.map some) (av : List Value) : FrameBlind (xrP D yy wc H.size av) ∧ ∀ U : State, U.heap = H → s.WarmedH U.vm → xrP D yy wc H.size av av.toArray U :=
  ⟨xrP_blind, fun U hU hW => ⟨rfl, by rw [hU], by rw [hU]; exact hP.sub is (pick_map hC), va_K.moved hW.alike hK, (hD.sub is hni hC).weaken (fun _ _ _ _ => trivial), by rw [hU]; exact ((hZ.kept hS.2.1).narrow (va_free (wc := wc) hD hS hA is hC)).moved hW.alike⟩⟩
theorem cx_Vi (S : CallFix p m c cc nL s args Ts own) (hM : vx_Met l y wsy rm (xrP D yy wc H.size (.ref b :: As)) (xQi D yy k r w1 wc H.size) (xX D yy k w1 wc H.size) mc ms (va_A wc H.size)) (cw : CallW R s args own C index y bytes maxL ret wsy rm mc ms n) (hK : va_K D vwCl (tyl yy) s) (hP : va_P D vwCl V H) (hD : va_D A V) (hS : va_S A s.heap H locs) (hA : ∀ q, s.heap.size ≤ q → A q) (hZ : thrZ A s s.heap)
    (is isR : List Nat) (hni : va_nd is = true) (hC : is.map (fun i => V[i]?) = wc.map some) (hR : isR.map (fun i => V[i]?) = wr.map some) (hnR : va_nd isR = true) (hdis : ∀ i ∈ isR, i ∉ is) (he : wc[0]? = some (b, .inr (ci, fs))) (hc : vwCl[ci]? = some (C, T, N))
    (hn : As.length = n) (hsize : ls.size = nL) (hst : st0 = As.reverse ++ .ref b :: rest) (hW : (rest.map fun v => v.category).sum ≤ 8) (hdg : decode cc pc = .ok (.invokevirtual index, 3)) (hf : cells + mc ≤ R.cells ∧ slots + ms ≤ R.slots)
    (kx : ¬ k = 0 → ∀ (ce : Cell) (q9 : Addr) (H1 : Heap) (locs1 : List Loc), va_P D vwCl (wr ++ w1) H1 → va_D A (wr ++ w1) → va_S A s.heap H1 locs1 → H1[q9]? = some ce → ce.vm = .none → s.vm.findClass (exn k) = some ce.cls → vx_W p l e R s m args below meth c H1 locs1 (cells + mc) (slots + ms) Q (F0 m pc ls rest) q9)
    (kk : k = 0 → ∀ (H1 : Heap) (locs1 : List Loc), va_P D vwCl (wr ++ w1) H1 → va_D A (wr ++ w1) → va_S A s.heap H1 locs1 → W p l e R s m args below meth c H1 locs1 (cells + mc) (slots + ms) Q (F0 m (pc + 3) ls (.int r :: rest))) : W p l e R s m args below meth c H locs cells slots Q (F0 m pc ls st0) := by
  have hpre := cx_pre hK hP hD hS hA hZ is hni hC (.ref b :: As)
  have hF := va_free (wc := wc) hD hS hA is hC
  refine vx_calli (vx_runV S hM cw ⟨hpre.1, va_recv hK (hP.sub is (pick_map hC)) hc he, hpre.2⟩ rfl hn hsize hst (lv_room (ls := ls) (rest := st0) (pc := pc) (m := m) hW) hdg hf) hS (fun q _ h => hF q h) hF (fun q _ h => hF q h) (fun E ce q9 u t H1 locs1 ht hvm hk hB hz1 hk1 hS h1 h2 h3 => ?_) (fun r' u t H1 locs1 ht hvm hw hB hz1 hk1 hS => ?_)
  · obtain ⟨hE, hP1, hK1, hD1⟩ := hB
    rw [ht] at hP1
    subst hE
    obtain ⟨hP2, hD2⟩ := va_join hP hD is isR hC hR hnR hdis hk1 hF hP1 hD1
    exact kx hk ce q9 H1 locs1 hP2 hD2 hS h1 h2 h3
  · obtain ⟨hP1, hK1, hD1⟩ := hB
    rw [ht] at hP1
    obtain ⟨hk, hr⟩ := hw
    subst hr
    obtain ⟨hP2, hD2⟩ := va_join hP hD is isR hC hR hnR hdis hk1 hF hP1 hD1
    exact kk hk H1 locs1 hP2 hD2 hS
theorem cx_Sv (S : CallFix p m c cc nL s args Ts own) (hM : vx_Met l y wsy rm (xrP D yy wc H.size As) (xQv D yy k w1 wc H.size) (xX D yy k w1 wc H.size) mc ms (va_A wc H.size)) (cw : CallB R s args own index y bytes maxL ret wsy rm mc ms n ∧ (Cond.static y).before args s = true) (hK : va_K D vwCl (tyl yy) s) (hP : va_P D vwCl V H) (hD : va_D A V) (hS : va_S A s.heap H locs) (hA : ∀ q, s.heap.size ≤ q → A q) (hZ : thrZ A s s.heap)
    (is isR : List Nat) (hni : va_nd is = true) (hC : is.map (fun i => V[i]?) = wc.map some) (hR : isR.map (fun i => V[i]?) = wr.map some) (hnR : va_nd isR = true) (hdis : ∀ i ∈ isR, i ∉ is)
    (hn : As.length = n) (hsize : ls.size = nL) (hst : st0 = As.reverse ++ rest) (hW : (rest.map fun v => v.category).sum ≤ 8) (hdg : decode cc pc = .ok (.invokestatic index, 3)) (hf : cells + mc ≤ R.cells ∧ slots + ms ≤ R.slots)
    (kx : ¬ k = 0 → ∀ (ce : Cell) (q9 : Addr) (H1 : Heap) (locs1 : List Loc), va_P D vwCl (wr ++ w1) H1 → va_D A (wr ++ w1) → va_S A s.heap H1 locs1 → H1[q9]? = some ce → ce.vm = .none → s.vm.findClass (exn k) = some ce.cls → vx_W p l e R s m args below meth c H1 locs1 (cells + mc) (slots + ms) Q (F0 m pc ls rest) q9)
    (kk : k = 0 → ∀ (H1 : Heap) (locs1 : List Loc), va_P D vwCl (wr ++ w1) H1 → va_D A (wr ++ w1) → va_S A s.heap H1 locs1 → W p l e R s m args below meth c H1 locs1 (cells + mc) (slots + ms) Q (F0 m (pc + 3) ls rest)) : W p l e R s m args below meth c H locs cells slots Q (F0 m pc ls st0) := by
  have hpre := cx_pre hK hP hD hS hA hZ is hni hC As
  have hF := va_free (wc := wc) hD hS hA is hC
  refine vx_callv (vx_runS S hM cw ⟨hpre.1, hpre.2⟩ rfl hn hsize hst (lv_room (ls := ls) (rest := st0) (pc := pc) (m := m) hW) hdg hf) hS (fun q _ h => hF q h) hF (fun q _ h => hF q h) (fun E ce q9 u t H1 locs1 ht hvm hk hB hz1 hk1 hS h1 h2 h3 => ?_) (fun u t H1 locs1 ht hvm hk hB hz1 hk1 hS => ?_)
  · obtain ⟨hE, hP1, hK1, hD1⟩ := hB
    rw [ht] at hP1
    subst hE
    obtain ⟨hP2, hD2⟩ := va_join hP hD is isR hC hR hnR hdis hk1 hF hP1 hD1
    exact kx hk ce q9 H1 locs1 hP2 hD2 hS h1 h2 h3
  · obtain ⟨hP1, hK1, hD1⟩ := hB
    rw [ht] at hP1
    obtain ⟨hP2, hD2⟩ := va_join hP hD is isR hC hR hnR hdis hk1 hF hP1 hD1
    exact kk hk H1 locs1 hP2 hD2 hS
theorem xret_i (hx : p.tables.exec = Jvm.exec) (hb : c.code = cc) (hr : meth.sig.returnType = some .int) (hlocks : meth.locks = false) (hAe : va_A w0 s.heap.size = A) (hK : va_K D vwCl (tyl yy) s) (hP : va_P D vwCl V H) (hD : va_D A V) (hS : va_S A s.heap H locs) (is : List Nat) (hn : va_nd is = true) (hC : is.map (fun i => V[i]?) = w1.map some)
    (hdg : decode cc pc = .ok (.ireturn, 1)) : W p l e R s m args below meth c H locs cells slots (vx_MQ below (xQi D yy 0 v w1 w0 s.heap.size) (xX D yy 0 w1 w0 s.heap.size) args s cells slots (va_A w0 s.heap.size)) (F0 m pc ls [.int v]) :=
  vx_ret (W.iret hx hb hr (fun t ht hW => ⟨⟨v, (), rfl, ⟨rfl, rfl⟩, w_end hAe hK hP hD is hn hC ht hW⟩, by rw [hAe]; exact hS.F ht⟩) (by rw [hAe]; exact hS.2.2) hdg hlocks)
theorem xret_z {ty : FieldType} (hx : p.tables.exec = Jvm.exec) (hb : c.code = cc) (hr : meth.sig.returnType = some ty) (hnn : narrow ty (.int v) = .int v) (hlocks : meth.locks = false) (hAe : va_A w0 s.heap.size = A) (hK : va_K D vwCl (tyl yy) s) (hP : va_P D vwCl V H) (hD : va_D A V) (hS : va_S A s.heap H locs) (is : List Nat) (hn : va_nd is = true) (hC : is.map (fun i => V[i]?) = w1.map some)
    (hdg : decode cc pc = .ok (.ireturn, 1)) : W p l e R s m args below meth c H locs cells slots (vx_MQ below (xQi D yy 0 v w1 w0 s.heap.size) (xX D yy 0 w1 w0 s.heap.size) args s cells slots (va_A w0 s.heap.size)) (F0 m pc ls [.int v]) :=
  vx_ret (W.zret hx hb hr hnn (fun t ht hW => ⟨⟨v, (), rfl, ⟨rfl, rfl⟩, w_end hAe hK hP hD is hn hC ht hW⟩, by rw [hAe]; exact hS.F ht⟩) (by rw [hAe]; exact hS.2.2) hdg hlocks)
theorem xret_d {v : UInt64} (hx : p.tables.exec = Jvm.exec) (hb : c.code = cc) (hr : meth.sig.returnType = some .double) (hlocks : meth.locks = false) (hAe : va_A w0 s.heap.size = A) (hK : va_K D vwCl (tyl yy) s) (hP : va_P D vwCl V H) (hD : va_D A V) (hS : va_S A s.heap H locs) (is : List Nat) (hn : va_nd is = true) (hC : is.map (fun i => V[i]?) = w1.map some)
    (hdg : decode cc pc = .ok (.dreturn, 1)) : W p l e R s m args below meth c H locs cells slots (vx_MQ below (xQd D yy 0 v w1 w0 s.heap.size) (xX D yy 0 w1 w0 s.heap.size) args s cells slots (va_A w0 s.heap.size)) (F0 m pc ls [.double v]) :=
  vx_ret (W.dret hx hb hr (fun t ht hW => ⟨⟨v, (), rfl, ⟨rfl, rfl⟩, w_end hAe hK hP hD is hn hC ht hW⟩, by rw [hAe]; exact hS.F ht⟩) (by rw [hAe]; exact hS.2.2) hdg hlocks)
theorem xret_f {v : UInt32} (hx : p.tables.exec = Jvm.exec) (hb : c.code = cc) (hr : meth.sig.returnType = some .float) (hlocks : meth.locks = false) (hAe : va_A w0 s.heap.size = A) (hK : va_K D vwCl (tyl yy) s) (hP : va_P D vwCl V H) (hD : va_D A V) (hS : va_S A s.heap H locs) (is : List Nat) (hn : va_nd is = true) (hC : is.map (fun i => V[i]?) = w1.map some)
    (hdg : decode cc pc = .ok (.freturn, 1)) : W p l e R s m args below meth c H locs cells slots (vx_MQ below (xQf D yy 0 v w1 w0 s.heap.size) (xX D yy 0 w1 w0 s.heap.size) args s cells slots (va_A w0 s.heap.size)) (F0 m pc ls [.float v]) :=
  vx_ret (W.fret hx hb hr (fun t ht hW => ⟨⟨v, (), rfl, ⟨rfl, rfl⟩, w_end hAe hK hP hD is hn hC ht hW⟩, by rw [hAe]; exact hS.F ht⟩) (by rw [hAe]; exact hS.2.2) hdg hlocks)
theorem xret_v (hx : p.tables.exec = Jvm.exec) (hb : c.code = cc) (hr : meth.sig.returnType = none) (hlocks : meth.locks = false) (hAe : va_A w0 s.heap.size = A) (hK : va_K D vwCl (tyl yy) s) (hP : va_P D vwCl V H) (hD : va_D A V) (hS : va_S A s.heap H locs) (is : List Nat) (hn : va_nd is = true) (hC : is.map (fun i => V[i]?) = w1.map some)
    (hdg : decode cc pc = .ok (.return_, 1)) : W p l e R s m args below meth c H locs cells slots (vx_MQ below (xQv D yy 0 w1 w0 s.heap.size) (xX D yy 0 w1 w0 s.heap.size) args s cells slots (va_A w0 s.heap.size)) (F0 m pc ls []) :=
  vx_ret (W.vret hx hb hr (fun t ht hW => ⟨⟨(), rfl, rfl, w_end hAe hK hP hD is hn hC ht hW⟩, by rw [hAe]; exact hS.F ht⟩) (by rw [hAe]; exact hS.2.2) hdg hlocks)
/-- what a callee threw goes on to the caller -/
theorem xout {Qc : Array Value → State → Outcome → State → Prop} {ce : Cell} {q9 : Addr} (hnt : ∀ x ∈ c.exceptionTable.toList, False) (hlocks : meth.locks = false) (hAe : va_A w0 s.heap.size = A) (hK : va_K D vwCl (tyl yy) s) (hP : va_P D vwCl V H) (hD : va_D A V) (hS : va_S A s.heap H locs) (is : List Nat) (hn : va_nd is = true) (hC : is.map (fun i => V[i]?) = w1.map some)
    (hk : ¬ k = 0) (h1 : H[q9]? = some ce) (h2 : ce.vm = .none) (h3 : s.vm.findClass (exn k) = some ce.cls) (hc : cells ≤ mc) (hs : slots ≤ ms) :
    vx_W p l e R s m args below meth c H locs cells slots (vx_MQ below Qc (xX D yy k w1 w0 s.heap.size) args s mc ms (va_A w0 s.heap.size)) (F0 m pc ls rest) q9 := by
  refine vx_out (fun x h => (hnt x h).elim) hlocks h1 h2 h3 (fun t ht hvm => ⟨(), hk, ⟨rfl, ?_⟩, by rw [hAe]; exact hS.F ht⟩) (by rw [hAe]; exact hS.2.2) hc hs
  exact ⟨by rw [ht]; exact hP.sub is (pick_map hC), va_K.moved hvm hK, by rw [hAe]; exact hD.sub is hn hC⟩
/-- throw new E() -/
theorem thr0 {Qc : Array Value → State → Outcome → State → Prop} {cls : String} {names : List String} {ik ic : Nat} (hx : p.tables.exec = Jvm.exec) (hb : c.code = cc) (hl : l.stackTraces = false)
    (hown : s.vm.findClass own = some m.cls) (hcls : Bundle.fit cls = true) (hnames : ∀ n ∈ names, Bundle.fit n = true)
    (hk : (Cond.classLink own ik cls).before args s = true) (hini : (Cond.initialized cls).before args s = true) (hat : ∀ w ∈ (vx_at0 own ic cls names).filter goodWord, w.before args s = true) (hat2 : ∀ w ∈ (vx_at0 own ic cls names).filter (fun w => !goodWord w), w ∈ thrB cls) (hcE : cls ∈ thrEs)
    (hgood : ∀ w ∈ Cond.classLink own ik cls :: Cond.initialized cls :: vx_at0 own ic cls names, vx_ot w = true)
    (hZ : thrZ A s s.heap) (hAe : va_A w0 s.heap.size = A) (hK : va_K D vwCl (tyl yy) s) (hP : va_P D vwCl V H) (hD : va_D A V) (hS : va_S A s.heap H locs) (hsize : ls.size = c.maxLocals) (is : List Nat) (hn : va_nd is = true) (hC : is.map (fun i => V[i]?) = w1.map some)
    (d0 : decode cc pc = .ok (.new ik, 3)) (d3 : decode cc (pc + 3) = .ok (.dup, 1)) (d4 : decode cc (pc + 4) = .ok (.invokespecial ic, 3)) (d7 : decode cc (pc + 7) = .ok (.athrow, 1))
    (hnt : ∀ x ∈ c.exceptionTable.toList, False)
    (hRframes : names.length + 3 < R.frames) (hRlocals : (rest.map fun v => v.category).sum + (13 * (names.length + 1) + 42) ≤ R.locals) (hRcells : cells + 1 ≤ R.cells) (hRslots : slots + 6 ≤ R.slots) (hlocks : meth.locks = false)
    (hk0 : ¬ k = 0) (hE : cls = exn k) (hc : cells + 1 ≤ mc) (hs : slots + 6 ≤ ms) :
    W p l e R s m args below meth c H locs cells slots (vx_MQ below Qc (xX D yy k w1 w0 s.heap.size) args s mc ms (va_A w0 s.heap.size)) (F0 m pc ls rest) := by
  refine vx_throw0 (A := A) hx hb hl hown hcls hnames hk hini (vx_hat (B := thrB cls) hat hat2 (hZ.2.2.words hcE)) hgood hZ.1 hZ.2.1 hS hsize d0 d3 d4 d7 (fun x h => (hnt x h).elim) hRframes hRlocals hRcells hRslots hlocks (fun t hvm hz hkp => ⟨(), hk0, ⟨hE, ?_⟩, ?_⟩) (by rw [hAe]; exact hS.2.2) hc hs
  · exact ⟨(hP.kept (fun i q hq => hkp q.1 (hP i q hq).lt)).sub is (pick_map hC), va_K.moved hvm hK, by rw [hAe]; exact hD.sub is hn hC⟩
  · rw [hAe]
    exact ⟨Nat.le_trans hS.1 hz, fun q h1 h2 => by rw [hkp q (Nat.lt_of_lt_of_le h1 hS.1)]; exact hS.2.1 q h1 h2⟩
end MYX
