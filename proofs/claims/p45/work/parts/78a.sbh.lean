/-! StringBuilder: words for its cells, contracts with what is not fixed, their calls -/
def gC (q m : Nat) : Nat := if q ≤ m then 0 else 1
def gS (q m : Nat) : Nat := if q ≤ m then 0 else sb_cap q m
abbrev sbW (y : Nat → ClassId) (a v m : Nat) (ml n : Int32) (b : Nat → Int32) : va_W := [(a, .inr (1, [.ref v, .int 0, .int ml, .int n])), (v, .inl (y 2, m, .inl b))]
def wQuv {S : Type} (D : va_G) (y : Nat → ClassId) (post : S → Prop) (W1 : S → va_W) (ws : va_W) (sz : Nat) : Array Value → State → Outcome → State → Prop := va_Qv post (fun u t => wrB D y (W1 u) ws sz t) (va_A ws sz)
def wQui {S : Type} (D : va_G) (y : Nat → ClassId) (r : Int32) (post : S → Prop) (W1 : S → va_W) (ws : va_W) (sz : Nat) : Array Value → State → Outcome → State → Prop := va_Qi (fun r' u => r' = r ∧ post u) (fun u t => wrB D y (W1 u) ws sz t) (va_A ws sz)
def wQur {S : Type} (D : va_G) (y : Nat → ClassId) (ad : S → Nat) (post : S → Prop) (W1 : S → va_W) (ws : va_W) (sz : Nat) : Array Value → State → Outcome → State → Prop := va_Qr post (fun u ra t => ra = ad u ∧ wrB D y (W1 u) ws sz t) (va_A ws sz)
section MYSB
variable {p : Program} {l : Launch} {e : Env} {R : Room} {s : State} {m : MethodId} {args : Array Value} {below : List Frame} {meth : Method} {c : Code} {H : Heap} {locs : List Loc} {cells slots : Nat} {Q : State → Prop}
variable {D : va_G} {yy : Nat → ClassId} {V wc wr w0 ws : va_W} {S : Type} {post : S → Prop} {W1 : S → va_W} {ad : S → Nat} {x y : MethodName} {bytes cc : ByteArray} {maxL nL n index N ci b mc ms : Nat} {ret rt : Option FieldType} {wsy : List Cond} {rm : Room} {Ts : List Cond} {own C owner : String} {T : u_T} {fs As rest st0 : List Value} {pc : Nat} {ls : Array Slot} {A : Nat → Prop} {r : Int32}
theorem s1_is {x z : Int32} (h : x = z) (k : W p l e R s m args below meth c H locs cells slots Q (F0 m pc ls (.int z :: rest))) : W p l e R s m args below meth c H locs cells slots Q (F0 m pc ls (.int x :: rest)) := by subst h; exact k
theorem sx_is {st1 st2 : List Value} (h : st1 = st2) (k : W p l e R s m args below meth c H locs cells slots Q (F0 m pc ls st2)) : W p l e R s m args below meth c H locs cells slots Q (F0 m pc ls st1) := by subst h; exact k
theorem ret_uv (u : S) (hp : post u) (hx : p.tables.exec = Jvm.exec) (hb : c.code = cc) (hr : meth.sig.returnType = none) (hlocks : meth.locks = false) (hAe : va_A w0 s.heap.size = A) (hK : va_K D vwCl (tyl yy) s) (hP : va_P D vwCl V H) (hD : va_D A V) (hS : va_S A s.heap H locs) (is : List Nat) (hn : va_nd is = true) (hC : is.map (fun i => V[i]?) = (W1 u).map some)
    (hdg : decode cc pc = .ok (.return_, 1)) : W p l e R s m args below meth c H locs cells slots (MQ below (wQuv D yy post W1 w0 s.heap.size) args s cells slots (va_A w0 s.heap.size)) (F0 m pc ls []) :=
  W.vret hx hb hr (fun t ht hW => ⟨⟨u, rfl, hp, w_end hAe hK hP hD is hn hC ht hW⟩, by rw [hAe]; exact hS.F ht⟩) (by rw [hAe]; exact hS.2.2) hdg hlocks
theorem ret_ui (u : S) (hp : post u) (hx : p.tables.exec = Jvm.exec) (hb : c.code = cc) (hr : meth.sig.returnType = some .int) (hlocks : meth.locks = false) (hAe : va_A w0 s.heap.size = A) (hK : va_K D vwCl (tyl yy) s) (hP : va_P D vwCl V H) (hD : va_D A V) (hS : va_S A s.heap H locs) (is : List Nat) (hn : va_nd is = true) (hC : is.map (fun i => V[i]?) = (W1 u).map some)
    (hdg : decode cc pc = .ok (.ireturn, 1)) : W p l e R s m args below meth c H locs cells slots (MQ below (wQui D yy r post W1 w0 s.heap.size) args s cells slots (va_A w0 s.heap.size)) (F0 m pc ls [.int r]) :=
  W.iret hx hb hr (fun t ht hW => ⟨⟨r, u, rfl, ⟨rfl, hp⟩, w_end hAe hK hP hD is hn hC ht hW⟩, by rw [hAe]; exact hS.F ht⟩) (by rw [hAe]; exact hS.2.2) hdg hlocks
theorem ret_uz {ty : FieldType} (u : S) (hp : post u) (hx : p.tables.exec = Jvm.exec) (hb : c.code = cc) (hr : meth.sig.returnType = some ty) (hnn : narrow ty (.int r) = .int r) (hlocks : meth.locks = false) (hAe : va_A w0 s.heap.size = A) (hK : va_K D vwCl (tyl yy) s) (hP : va_P D vwCl V H) (hD : va_D A V) (hS : va_S A s.heap H locs) (is : List Nat) (hn : va_nd is = true) (hC : is.map (fun i => V[i]?) = (W1 u).map some)
    (hdg : decode cc pc = .ok (.ireturn, 1)) : W p l e R s m args below meth c H locs cells slots (MQ below (wQui D yy r post W1 w0 s.heap.size) args s cells slots (va_A w0 s.heap.size)) (F0 m pc ls [.int r]) :=
  W.zret hx hb hr hnn (fun t ht hW => ⟨⟨r, u, rfl, ⟨rfl, hp⟩, w_end hAe hK hP hD is hn hC ht hW⟩, by rw [hAe]; exact hS.F ht⟩) (by rw [hAe]; exact hS.2.2) hdg hlocks
theorem ret_ur {rty : FieldType} (u : S) (hp : post u) (hx : p.tables.exec = Jvm.exec) (hb : c.code = cc) (hr : meth.sig.returnType = some rty) (hrt : (∃ n, rty = .object n) ∨ ∃ t, rty = .array t) (hlocks : meth.locks = false) (hAe : va_A w0 s.heap.size = A) (hK : va_K D vwCl (tyl yy) s) (hP : va_P D vwCl V H) (hD : va_D A V) (hS : va_S A s.heap H locs) (is : List Nat) (hn : va_nd is = true) (hC : is.map (fun i => V[i]?) = (W1 u).map some)
    (hdg : decode cc pc = .ok (.areturn, 1)) : W p l e R s m args below meth c H locs cells slots (MQ below (wQur D yy ad post W1 w0 s.heap.size) args s cells slots (va_A w0 s.heap.size)) (F0 m pc ls [.ref (ad u)]) :=
  W.aret hx hb hr hrt (Or.inr ⟨_, rfl⟩) (fun t ht hW => ⟨⟨u, ad u, rfl, hp, rfl, w_end hAe hK hP hD is hn hC ht hW⟩, by rw [hAe]; exact hS.F ht⟩) (by rw [hAe]; exact hS.2.2) hdg hlocks
theorem cj_Vv (S0 : CallFix p m c cc nL s args Ts own) (hM : Met l y wsy rm (jrP D yy wc H.size (.ref b :: As)) (wQuv D yy post W1 wc H.size) mc ms (va_A wc H.size)) (cw : CallW R s args own C index y bytes maxL ret wsy rm mc ms n) (hK : va_K D vwCl (tyl yy) s) (hP : va_P D vwCl V H) (hD : va_D A V) (hS : va_S A s.heap H locs) (hA : ∀ q, s.heap.size ≤ q → A q) (hJ : jdZ A s s.heap)
    (is isR : List Nat) (hni : va_nd is = true) (hC : is.map (fun i => V[i]?) = wc.map some) (hR : isR.map (fun i => V[i]?) = wr.map some) (hnR : va_nd isR = true) (hdis : ∀ i ∈ isR, i ∉ is) (he : wc[0]? = some (b, .inr (ci, fs))) (hc : vwCl[ci]? = some (C, T, N))
    (hn : As.length = n) (hsize : ls.size = nL) (hst : st0 = As.reverse ++ .ref b :: rest) (hW : (rest.map fun v => v.category).sum ≤ 8) (hdg : decode cc pc = .ok (.invokevirtual index, 3)) (hf : cells + mc ≤ R.cells ∧ slots + ms ≤ R.slots)
    (kk : ∀ (u : S) (H1 : Heap) (locs1 : List Loc), post u → va_P D vwCl (wr ++ W1 u) H1 → va_D A (wr ++ W1 u) → va_S A s.heap H1 locs1 → W p l e R s m args below meth c H1 locs1 (cells + mc) (slots + ms) Q (F0 m (pc + 3) ls rest)) : W p l e R s m args below meth c H locs cells slots Q (F0 m pc ls st0) := by
  have hpre := cj_pre hK hP hD hS hA hJ is hni hC (.ref b :: As)
  have hF := va_free (wc := wc) hD hS hA is hC
  refine va_callv (va_runV S0 hM cw ⟨hpre.1, va_recv hK (hP.sub is (pick_map hC)) hc he, hpre.2⟩ rfl hn hsize hst (lv_room (ls := ls) (rest := st0) (pc := pc) (m := m) hW) hdg hf) hS (fun q _ h => hF q h) hF (fun u t H1 locs1 ht hvm hw hB hz1 hk1 hS => ?_)
  obtain ⟨hP1, hK1, hD1⟩ := hB
  rw [ht] at hP1
  obtain ⟨hP2, hD2⟩ := va_join hP hD is isR hC hR hnR hdis hk1 hF hP1 hD1
  exact kk u H1 locs1 hw hP2 hD2 hS
theorem cj_Vi (S0 : CallFix p m c cc nL s args Ts own) (hM : Met l y wsy rm (jrP D yy wc H.size (.ref b :: As)) (wQui D yy r post W1 wc H.size) mc ms (va_A wc H.size)) (cw : CallW R s args own C index y bytes maxL ret wsy rm mc ms n) (hK : va_K D vwCl (tyl yy) s) (hP : va_P D vwCl V H) (hD : va_D A V) (hS : va_S A s.heap H locs) (hA : ∀ q, s.heap.size ≤ q → A q) (hJ : jdZ A s s.heap)
    (is isR : List Nat) (hni : va_nd is = true) (hC : is.map (fun i => V[i]?) = wc.map some) (hR : isR.map (fun i => V[i]?) = wr.map some) (hnR : va_nd isR = true) (hdis : ∀ i ∈ isR, i ∉ is) (he : wc[0]? = some (b, .inr (ci, fs))) (hc : vwCl[ci]? = some (C, T, N))
    (hn : As.length = n) (hsize : ls.size = nL) (hst : st0 = As.reverse ++ .ref b :: rest) (hW : (rest.map fun v => v.category).sum ≤ 8) (hdg : decode cc pc = .ok (.invokevirtual index, 3)) (hf : cells + mc ≤ R.cells ∧ slots + ms ≤ R.slots)
    (kk : ∀ (u : S) (H1 : Heap) (locs1 : List Loc), post u → va_P D vwCl (wr ++ W1 u) H1 → va_D A (wr ++ W1 u) → va_S A s.heap H1 locs1 → W p l e R s m args below meth c H1 locs1 (cells + mc) (slots + ms) Q (F0 m (pc + 3) ls (.int r :: rest))) : W p l e R s m args below meth c H locs cells slots Q (F0 m pc ls st0) := by
  have hpre := cj_pre hK hP hD hS hA hJ is hni hC (.ref b :: As)
  have hF := va_free (wc := wc) hD hS hA is hC
  refine va_calli (va_runV S0 hM cw ⟨hpre.1, va_recv hK (hP.sub is (pick_map hC)) hc he, hpre.2⟩ rfl hn hsize hst (lv_room (ls := ls) (rest := st0) (pc := pc) (m := m) hW) hdg hf) hS (fun q _ h => hF q h) hF (fun r' u t H1 locs1 ht hvm hw hB hz1 hk1 hS => ?_)
  obtain ⟨hP1, hK1, hD1⟩ := hB
  obtain ⟨rfl, hw⟩ := hw
  rw [ht] at hP1
  obtain ⟨hP2, hD2⟩ := va_join hP hD is isR hC hR hnR hdis hk1 hF hP1 hD1
  exact kk u H1 locs1 hw hP2 hD2 hS
theorem cj_Vr (S0 : CallFix p m c cc nL s args Ts own) (hM : Met l y wsy rm (jrP D yy wc H.size (.ref b :: As)) (wQur D yy ad post W1 wc H.size) mc ms (va_A wc H.size)) (cw : CallW R s args own C index y bytes maxL ret wsy rm mc ms n) (hK : va_K D vwCl (tyl yy) s) (hP : va_P D vwCl V H) (hD : va_D A V) (hS : va_S A s.heap H locs) (hA : ∀ q, s.heap.size ≤ q → A q) (hJ : jdZ A s s.heap)
    (is isR : List Nat) (hni : va_nd is = true) (hC : is.map (fun i => V[i]?) = wc.map some) (hR : isR.map (fun i => V[i]?) = wr.map some) (hnR : va_nd isR = true) (hdis : ∀ i ∈ isR, i ∉ is) (he : wc[0]? = some (b, .inr (ci, fs))) (hc : vwCl[ci]? = some (C, T, N))
    (hn : As.length = n) (hsize : ls.size = nL) (hst : st0 = As.reverse ++ .ref b :: rest) (hW : (rest.map fun v => v.category).sum ≤ 8) (hdg : decode cc pc = .ok (.invokevirtual index, 3)) (hf : cells + mc ≤ R.cells ∧ slots + ms ≤ R.slots)
    (kk : ∀ (u : S) (H1 : Heap) (locs1 : List Loc), post u → va_P D vwCl (wr ++ W1 u) H1 → va_D A (wr ++ W1 u) → va_S A s.heap H1 locs1 → W p l e R s m args below meth c H1 locs1 (cells + mc) (slots + ms) Q (F0 m (pc + 3) ls (.ref (ad u) :: rest))) : W p l e R s m args below meth c H locs cells slots Q (F0 m pc ls st0) := by
  have hpre := cj_pre hK hP hD hS hA hJ is hni hC (.ref b :: As)
  have hF := va_free (wc := wc) hD hS hA is hC
  refine va_callr (va_runV S0 hM cw ⟨hpre.1, va_recv hK (hP.sub is (pick_map hC)) hc he, hpre.2⟩ rfl hn hsize hst (lv_room (ls := ls) (rest := st0) (pc := pc) (m := m) hW) hdg hf) hS (fun q _ h => hF q h) hF (fun u ra t H1 locs1 ht hvm hw hB hz1 hk1 hS => ?_)
  obtain ⟨rfl, hP1, hK1, hD1⟩ := hB
  rw [ht] at hP1
  obtain ⟨hP2, hD2⟩ := va_join hP hD is isR hC hR hnR hdis hk1 hF hP1 hD1
  exact kk u H1 locs1 hw hP2 hD2 hS
theorem cj_Uv (S0 : CallFix p m c cc nL s args Ts own) (hM : Met l y wsy rm (jrP D yy wc H.size (.ref b :: As)) (wQuv D yy post W1 wc H.size) mc ms (va_A wc H.size)) (cw : va_CU R s args own C owner index x y bytes maxL ret wsy rm mc ms n) (hK : va_K D vwCl (tyl yy) s) (hP : va_P D vwCl V H) (hD : va_D A V) (hS : va_S A s.heap H locs) (hA : ∀ q, s.heap.size ≤ q → A q) (hJ : jdZ A s s.heap)
    (is isR : List Nat) (hni : va_nd is = true) (hC : is.map (fun i => V[i]?) = wc.map some) (hR : isR.map (fun i => V[i]?) = wr.map some) (hnR : va_nd isR = true) (hdis : ∀ i ∈ isR, i ∉ is) (he : wc[0]? = some (b, .inr (ci, fs))) (hc : vwCl[ci]? = some (C, T, N))
    (hn : As.length = n) (hsize : ls.size = nL) (hst : st0 = As.reverse ++ .ref b :: rest) (hW : (rest.map fun v => v.category).sum ≤ 8) (hdg : decode cc pc = .ok (.invokevirtual index, 3)) (hf : cells + mc ≤ R.cells ∧ slots + ms ≤ R.slots)
    (kk : ∀ (u : S) (H1 : Heap) (locs1 : List Loc), post u → va_P D vwCl (wr ++ W1 u) H1 → va_D A (wr ++ W1 u) → va_S A s.heap H1 locs1 → W p l e R s m args below meth c H1 locs1 (cells + mc) (slots + ms) Q (F0 m (pc + 3) ls rest)) : W p l e R s m args below meth c H locs cells slots Q (F0 m pc ls st0) := by
  have hpre := cj_pre hK hP hD hS hA hJ is hni hC (.ref b :: As)
  have hF := va_free (wc := wc) hD hS hA is hC
  refine va_callv (va_runU S0 hM cw ⟨hpre.1, va_recv hK (hP.sub is (pick_map hC)) hc he, hpre.2⟩ rfl hn hsize hst (lv_room (ls := ls) (rest := st0) (pc := pc) (m := m) hW) hdg hf) hS (fun q _ h => hF q h) hF (fun u t H1 locs1 ht hvm hw hB hz1 hk1 hS => ?_)
  obtain ⟨hP1, hK1, hD1⟩ := hB
  rw [ht] at hP1
  obtain ⟨hP2, hD2⟩ := va_join hP hD is isR hC hR hnR hdis hk1 hF hP1 hD1
  exact kk u H1 locs1 hw hP2 hD2 hS
theorem cj_Ui (S0 : CallFix p m c cc nL s args Ts own) (hM : Met l y wsy rm (jrP D yy wc H.size (.ref b :: As)) (wQui D yy r post W1 wc H.size) mc ms (va_A wc H.size)) (cw : va_CU R s args own C owner index x y bytes maxL ret wsy rm mc ms n) (hK : va_K D vwCl (tyl yy) s) (hP : va_P D vwCl V H) (hD : va_D A V) (hS : va_S A s.heap H locs) (hA : ∀ q, s.heap.size ≤ q → A q) (hJ : jdZ A s s.heap)
    (is isR : List Nat) (hni : va_nd is = true) (hC : is.map (fun i => V[i]?) = wc.map some) (hR : isR.map (fun i => V[i]?) = wr.map some) (hnR : va_nd isR = true) (hdis : ∀ i ∈ isR, i ∉ is) (he : wc[0]? = some (b, .inr (ci, fs))) (hc : vwCl[ci]? = some (C, T, N))
    (hn : As.length = n) (hsize : ls.size = nL) (hst : st0 = As.reverse ++ .ref b :: rest) (hW : (rest.map fun v => v.category).sum ≤ 8) (hdg : decode cc pc = .ok (.invokevirtual index, 3)) (hf : cells + mc ≤ R.cells ∧ slots + ms ≤ R.slots)
    (kk : ∀ (u : S) (H1 : Heap) (locs1 : List Loc), post u → va_P D vwCl (wr ++ W1 u) H1 → va_D A (wr ++ W1 u) → va_S A s.heap H1 locs1 → W p l e R s m args below meth c H1 locs1 (cells + mc) (slots + ms) Q (F0 m (pc + 3) ls (.int r :: rest))) : W p l e R s m args below meth c H locs cells slots Q (F0 m pc ls st0) := by
  have hpre := cj_pre hK hP hD hS hA hJ is hni hC (.ref b :: As)
  have hF := va_free (wc := wc) hD hS hA is hC
  refine va_calli (va_runU S0 hM cw ⟨hpre.1, va_recv hK (hP.sub is (pick_map hC)) hc he, hpre.2⟩ rfl hn hsize hst (lv_room (ls := ls) (rest := st0) (pc := pc) (m := m) hW) hdg hf) hS (fun q _ h => hF q h) hF (fun r' u t H1 locs1 ht hvm hw hB hz1 hk1 hS => ?_)
  obtain ⟨hP1, hK1, hD1⟩ := hB
  obtain ⟨rfl, hw⟩ := hw
  rw [ht] at hP1
  obtain ⟨hP2, hD2⟩ := va_join hP hD is isR hC hR hnR hdis hk1 hF hP1 hD1
  exact kk u H1 locs1 hw hP2 hD2 hS
theorem cj_Ur (S0 : CallFix p m c cc nL s args Ts own) (hM : Met l y wsy rm (jrP D yy wc H.size (.ref b :: As)) (wQur D yy ad post W1 wc H.size) mc ms (va_A wc H.size)) (cw : va_CU R s args own C owner index x y bytes maxL ret wsy rm mc ms n) (hK : va_K D vwCl (tyl yy) s) (hP : va_P D vwCl V H) (hD : va_D A V) (hS : va_S A s.heap H locs) (hA : ∀ q, s.heap.size ≤ q → A q) (hJ : jdZ A s s.heap)
    (is isR : List Nat) (hni : va_nd is = true) (hC : is.map (fun i => V[i]?) = wc.map some) (hR : isR.map (fun i => V[i]?) = wr.map some) (hnR : va_nd isR = true) (hdis : ∀ i ∈ isR, i ∉ is) (he : wc[0]? = some (b, .inr (ci, fs))) (hc : vwCl[ci]? = some (C, T, N))
    (hn : As.length = n) (hsize : ls.size = nL) (hst : st0 = As.reverse ++ .ref b :: rest) (hW : (rest.map fun v => v.category).sum ≤ 8) (hdg : decode cc pc = .ok (.invokevirtual index, 3)) (hf : cells + mc ≤ R.cells ∧ slots + ms ≤ R.slots)
    (kk : ∀ (u : S) (H1 : Heap) (locs1 : List Loc), post u → va_P D vwCl (wr ++ W1 u) H1 → va_D A (wr ++ W1 u) → va_S A s.heap H1 locs1 → W p l e R s m args below meth c H1 locs1 (cells + mc) (slots + ms) Q (F0 m (pc + 3) ls (.ref (ad u) :: rest))) : W p l e R s m args below meth c H locs cells slots Q (F0 m pc ls st0) := by
  have hpre := cj_pre hK hP hD hS hA hJ is hni hC (.ref b :: As)
  have hF := va_free (wc := wc) hD hS hA is hC
  refine va_callr (va_runU S0 hM cw ⟨hpre.1, va_recv hK (hP.sub is (pick_map hC)) hc he, hpre.2⟩ rfl hn hsize hst (lv_room (ls := ls) (rest := st0) (pc := pc) (m := m) hW) hdg hf) hS (fun q _ h => hF q h) hF (fun u ra t H1 locs1 ht hvm hw hB hz1 hk1 hS => ?_)
  obtain ⟨rfl, hP1, hK1, hD1⟩ := hB
  rw [ht] at hP1
  obtain ⟨hP2, hD2⟩ := va_join hP hD is isR hC hR hnR hdis hk1 hF hP1 hD1
  exact kk u H1 locs1 hw hP2 hD2 hS
theorem cr_U (S0 : CallFix p m c cc nL s args Ts own) (hM : Met l y wsy rm (rdP D yy wc (.ref b :: As)) (QcRead r) 0 0 (fun _ => False)) (cw : va_CU R s args own C owner index x y bytes maxL ret wsy rm 0 0 n) (hK : va_K D vwCl (tyl yy) s) (hP : va_P D vwCl V H) (is : List Nat) (hs : is.filterMap (fun i => V[i]?) = wc) (he : wc[0]? = some (b, .inr (ci, fs))) (hc : vwCl[ci]? = some (C, T, N))
    (hn : As.length = n) (hsize : ls.size = nL) (hst : st0 = As.reverse ++ .ref b :: rest) (hW : (rest.map fun v => v.category).sum ≤ 8) (hdg : decode cc pc = .ok (.invokevirtual index, 3)) (hf : cells + 0 ≤ R.cells ∧ slots + 0 ≤ R.slots)
    (kk : W p l e R s m args below meth c H locs cells slots Q (F0 m (pc + 3) ls (.int r :: rest))) : W p l e R s m args below meth c H locs cells slots Q (F0 m pc ls st0) :=
  W.callR (va_Run.run (va_runU S0 hM cw ⟨rdP_blind, va_recv hK (hP.sub is hs) hc he, fun U hU hW => ⟨rfl, by rw [hU]; exact hP.sub is hs, va_K.moved hW.alike hK⟩⟩ rfl hn hsize hst (lv_room (ls := ls) (rest := st0) (pc := pc) (m := m) hW) hdg hf)) kk
theorem cj_Wv (S0 : CallFix p m c cc nL s args Ts own) (hM : Met l y wsy rm (jrP D yy wc H.size (.ref b :: As)) (wQuv D yy post W1 wc H.size) mc ms (va_A wc H.size)) (cw : va_CS R s args own index y bytes maxL ret wsy rm mc ms n) (hK : va_K D vwCl (tyl yy) s) (hP : va_P D vwCl V H) (hD : va_D A V) (hS : va_S A s.heap H locs) (hA : ∀ q, s.heap.size ≤ q → A q) (hJ : jdZ A s s.heap)
    (is isR : List Nat) (hni : va_nd is = true) (hC : is.map (fun i => V[i]?) = wc.map some) (hR : isR.map (fun i => V[i]?) = wr.map some) (hnR : va_nd isR = true) (hdis : ∀ i ∈ isR, i ∉ is) (he : wc[0]? = some (b, .inr (ci, fs))) (hc : vwCl[ci]? = some (C, T, N))
    (hn : As.length = n) (hsize : ls.size = nL) (hst : st0 = As.reverse ++ .ref b :: rest) (hW : (rest.map fun v => v.category).sum ≤ 8) (hdg : decode cc pc = .ok (.invokespecial index, 3)) (hf : cells + mc ≤ R.cells ∧ slots + ms ≤ R.slots)
    (kk : ∀ (u : S) (H1 : Heap) (locs1 : List Loc), post u → va_P D vwCl (wr ++ W1 u) H1 → va_D A (wr ++ W1 u) → va_S A s.heap H1 locs1 → W p l e R s m args below meth c H1 locs1 (cells + mc) (slots + ms) Q (F0 m (pc + 3) ls rest)) : W p l e R s m args below meth c H locs cells slots Q (F0 m pc ls st0) := by
  have hpre := cj_pre hK hP hD hS hA hJ is hni hC (.ref b :: As)
  have hF := va_free (wc := wc) hD hS hA is hC
  refine va_callv (va_runSU (hK.1 ci _ hc).2 S0 hM cw ⟨hpre.1, va_recv hK (hP.sub is (pick_map hC)) hc he, hpre.2⟩ rfl hn hsize hst (lv_room (ls := ls) (rest := st0) (pc := pc) (m := m) hW) hdg hf) hS (fun q _ h => hF q h) hF (fun u t H1 locs1 ht hvm hw hB hz1 hk1 hS => ?_)
  obtain ⟨hP1, hK1, hD1⟩ := hB
  rw [ht] at hP1
  obtain ⟨hP2, hD2⟩ := va_join hP hD is isR hC hR hnR hdis hk1 hF hP1 hD1
  exact kk u H1 locs1 hw hP2 hD2 hS
theorem cj_Wi (S0 : CallFix p m c cc nL s args Ts own) (hM : Met l y wsy rm (jrP D yy wc H.size (.ref b :: As)) (wQui D yy r post W1 wc H.size) mc ms (va_A wc H.size)) (cw : va_CS R s args own index y bytes maxL ret wsy rm mc ms n) (hK : va_K D vwCl (tyl yy) s) (hP : va_P D vwCl V H) (hD : va_D A V) (hS : va_S A s.heap H locs) (hA : ∀ q, s.heap.size ≤ q → A q) (hJ : jdZ A s s.heap)
    (is isR : List Nat) (hni : va_nd is = true) (hC : is.map (fun i => V[i]?) = wc.map some) (hR : isR.map (fun i => V[i]?) = wr.map some) (hnR : va_nd isR = true) (hdis : ∀ i ∈ isR, i ∉ is) (he : wc[0]? = some (b, .inr (ci, fs))) (hc : vwCl[ci]? = some (C, T, N))
    (hn : As.length = n) (hsize : ls.size = nL) (hst : st0 = As.reverse ++ .ref b :: rest) (hW : (rest.map fun v => v.category).sum ≤ 8) (hdg : decode cc pc = .ok (.invokespecial index, 3)) (hf : cells + mc ≤ R.cells ∧ slots + ms ≤ R.slots)
    (kk : ∀ (u : S) (H1 : Heap) (locs1 : List Loc), post u → va_P D vwCl (wr ++ W1 u) H1 → va_D A (wr ++ W1 u) → va_S A s.heap H1 locs1 → W p l e R s m args below meth c H1 locs1 (cells + mc) (slots + ms) Q (F0 m (pc + 3) ls (.int r :: rest))) : W p l e R s m args below meth c H locs cells slots Q (F0 m pc ls st0) := by
  have hpre := cj_pre hK hP hD hS hA hJ is hni hC (.ref b :: As)
  have hF := va_free (wc := wc) hD hS hA is hC
  refine va_calli (va_runSU (hK.1 ci _ hc).2 S0 hM cw ⟨hpre.1, va_recv hK (hP.sub is (pick_map hC)) hc he, hpre.2⟩ rfl hn hsize hst (lv_room (ls := ls) (rest := st0) (pc := pc) (m := m) hW) hdg hf) hS (fun q _ h => hF q h) hF (fun r' u t H1 locs1 ht hvm hw hB hz1 hk1 hS => ?_)
  obtain ⟨hP1, hK1, hD1⟩ := hB
  obtain ⟨rfl, hw⟩ := hw
  rw [ht] at hP1
  obtain ⟨hP2, hD2⟩ := va_join hP hD is isR hC hR hnR hdis hk1 hF hP1 hD1
  exact kk u H1 locs1 hw hP2 hD2 hS
theorem cj_Wr (S0 : CallFix p m c cc nL s args Ts own) (hM : Met l y wsy rm (jrP D yy wc H.size (.ref b :: As)) (wQur D yy ad post W1 wc H.size) mc ms (va_A wc H.size)) (cw : va_CS R s args own index y bytes maxL ret wsy rm mc ms n) (hK : va_K D vwCl (tyl yy) s) (hP : va_P D vwCl V H) (hD : va_D A V) (hS : va_S A s.heap H locs) (hA : ∀ q, s.heap.size ≤ q → A q) (hJ : jdZ A s s.heap)
    (is isR : List Nat) (hni : va_nd is = true) (hC : is.map (fun i => V[i]?) = wc.map some) (hR : isR.map (fun i => V[i]?) = wr.map some) (hnR : va_nd isR = true) (hdis : ∀ i ∈ isR, i ∉ is) (he : wc[0]? = some (b, .inr (ci, fs))) (hc : vwCl[ci]? = some (C, T, N))
    (hn : As.length = n) (hsize : ls.size = nL) (hst : st0 = As.reverse ++ .ref b :: rest) (hW : (rest.map fun v => v.category).sum ≤ 8) (hdg : decode cc pc = .ok (.invokespecial index, 3)) (hf : cells + mc ≤ R.cells ∧ slots + ms ≤ R.slots)
    (kk : ∀ (u : S) (H1 : Heap) (locs1 : List Loc), post u → va_P D vwCl (wr ++ W1 u) H1 → va_D A (wr ++ W1 u) → va_S A s.heap H1 locs1 → W p l e R s m args below meth c H1 locs1 (cells + mc) (slots + ms) Q (F0 m (pc + 3) ls (.ref (ad u) :: rest))) : W p l e R s m args below meth c H locs cells slots Q (F0 m pc ls st0) := by
  have hpre := cj_pre hK hP hD hS hA hJ is hni hC (.ref b :: As)
  have hF := va_free (wc := wc) hD hS hA is hC
  refine va_callr (va_runSU (hK.1 ci _ hc).2 S0 hM cw ⟨hpre.1, va_recv hK (hP.sub is (pick_map hC)) hc he, hpre.2⟩ rfl hn hsize hst (lv_room (ls := ls) (rest := st0) (pc := pc) (m := m) hW) hdg hf) hS (fun q _ h => hF q h) hF (fun u ra t H1 locs1 ht hvm hw hB hz1 hk1 hS => ?_)
  obtain ⟨rfl, hP1, hK1, hD1⟩ := hB
  rw [ht] at hP1
  obtain ⟨hP2, hD2⟩ := va_join hP hD is isR hC hR hnR hdis hk1 hF hP1 hD1
  exact kk u H1 locs1 hw hP2 hD2 hS
theorem cr_W (S0 : CallFix p m c cc nL s args Ts own) (hM : Met l y wsy rm (rdP D yy wc (.ref b :: As)) (QcRead r) 0 0 (fun _ => False)) (cw : va_CS R s args own index y bytes maxL ret wsy rm 0 0 n) (hK : va_K D vwCl (tyl yy) s) (hP : va_P D vwCl V H) (is : List Nat) (hs : is.filterMap (fun i => V[i]?) = wc) (he : wc[0]? = some (b, .inr (ci, fs))) (hc : vwCl[ci]? = some (C, T, N))
    (hn : As.length = n) (hsize : ls.size = nL) (hst : st0 = As.reverse ++ .ref b :: rest) (hW : (rest.map fun v => v.category).sum ≤ 8) (hdg : decode cc pc = .ok (.invokespecial index, 3)) (hf : cells + 0 ≤ R.cells ∧ slots + 0 ≤ R.slots)
    (kk : W p l e R s m args below meth c H locs cells slots Q (F0 m (pc + 3) ls (.int r :: rest))) : W p l e R s m args below meth c H locs cells slots Q (F0 m pc ls st0) :=
  W.callR (va_Run.run (va_runSU (hK.1 ci _ hc).2 S0 hM cw ⟨rdP_blind, va_recv hK (hP.sub is hs) hc he, fun U hU hW => ⟨rfl, by rw [hU]; exact hP.sub is hs, va_K.moved hW.alike hK⟩⟩ rfl hn hsize hst (lv_room (ls := ls) (rest := st0) (pc := pc) (m := m) hW) hdg hf)) kk
theorem cj_Sv (S0 : CallFix p m c cc nL s args Ts own) (hM : Met l y wsy rm (jrP D yy wc H.size As) (wQuv D yy post W1 wc H.size) mc ms (va_A wc H.size)) (cw : CallB R s args own index y bytes maxL ret wsy rm mc ms n ∧ (Cond.static y).before args s = true) (hK : va_K D vwCl (tyl yy) s) (hP : va_P D vwCl V H) (hD : va_D A V) (hS : va_S A s.heap H locs) (hA : ∀ q, s.heap.size ≤ q → A q) (hJ : jdZ A s s.heap)
    (is isR : List Nat) (hni : va_nd is = true) (hC : is.map (fun i => V[i]?) = wc.map some) (hR : isR.map (fun i => V[i]?) = wr.map some) (hnR : va_nd isR = true) (hdis : ∀ i ∈ isR, i ∉ is)
    (hn : As.length = n) (hsize : ls.size = nL) (hst : st0 = As.reverse ++ rest) (hW : (rest.map fun v => v.category).sum ≤ 8) (hdg : decode cc pc = .ok (.invokestatic index, 3)) (hf : cells + mc ≤ R.cells ∧ slots + ms ≤ R.slots)
    (kk : ∀ (u : S) (H1 : Heap) (locs1 : List Loc), post u → va_P D vwCl (wr ++ W1 u) H1 → va_D A (wr ++ W1 u) → va_S A s.heap H1 locs1 → W p l e R s m args below meth c H1 locs1 (cells + mc) (slots + ms) Q (F0 m (pc + 3) ls rest)) : W p l e R s m args below meth c H locs cells slots Q (F0 m pc ls st0) := by
  have hpre := cj_pre hK hP hD hS hA hJ is hni hC As
  have hF := va_free (wc := wc) hD hS hA is hC
  refine va_callv (va_runS S0 hM cw ⟨hpre.1, hpre.2⟩ rfl hn hsize hst (lv_room (ls := ls) (rest := st0) (pc := pc) (m := m) hW) hdg hf) hS (fun q _ h => hF q h) hF (fun u t H1 locs1 ht hvm hw hB hz1 hk1 hS => ?_)
  obtain ⟨hP1, hK1, hD1⟩ := hB
  rw [ht] at hP1
  obtain ⟨hP2, hD2⟩ := va_join hP hD is isR hC hR hnR hdis hk1 hF hP1 hD1
  exact kk u H1 locs1 hw hP2 hD2 hS
theorem cj_Si (S0 : CallFix p m c cc nL s args Ts own) (hM : Met l y wsy rm (jrP D yy wc H.size As) (wQui D yy r post W1 wc H.size) mc ms (va_A wc H.size)) (cw : CallB R s args own index y bytes maxL ret wsy rm mc ms n ∧ (Cond.static y).before args s = true) (hK : va_K D vwCl (tyl yy) s) (hP : va_P D vwCl V H) (hD : va_D A V) (hS : va_S A s.heap H locs) (hA : ∀ q, s.heap.size ≤ q → A q) (hJ : jdZ A s s.heap)
    (is isR : List Nat) (hni : va_nd is = true) (hC : is.map (fun i => V[i]?) = wc.map some) (hR : isR.map (fun i => V[i]?) = wr.map some) (hnR : va_nd isR = true) (hdis : ∀ i ∈ isR, i ∉ is)
    (hn : As.length = n) (hsize : ls.size = nL) (hst : st0 = As.reverse ++ rest) (hW : (rest.map fun v => v.category).sum ≤ 8) (hdg : decode cc pc = .ok (.invokestatic index, 3)) (hf : cells + mc ≤ R.cells ∧ slots + ms ≤ R.slots)
    (kk : ∀ (u : S) (H1 : Heap) (locs1 : List Loc), post u → va_P D vwCl (wr ++ W1 u) H1 → va_D A (wr ++ W1 u) → va_S A s.heap H1 locs1 → W p l e R s m args below meth c H1 locs1 (cells + mc) (slots + ms) Q (F0 m (pc + 3) ls (.int r :: rest))) : W p l e R s m args below meth c H locs cells slots Q (F0 m pc ls st0) := by
  have hpre := cj_pre hK hP hD hS hA hJ is hni hC As
  have hF := va_free (wc := wc) hD hS hA is hC
  refine va_calli (va_runS S0 hM cw ⟨hpre.1, hpre.2⟩ rfl hn hsize hst (lv_room (ls := ls) (rest := st0) (pc := pc) (m := m) hW) hdg hf) hS (fun q _ h => hF q h) hF (fun r' u t H1 locs1 ht hvm hw hB hz1 hk1 hS => ?_)
  obtain ⟨hP1, hK1, hD1⟩ := hB
  obtain ⟨rfl, hw⟩ := hw
  rw [ht] at hP1
  obtain ⟨hP2, hD2⟩ := va_join hP hD is isR hC hR hnR hdis hk1 hF hP1 hD1
  exact kk u H1 locs1 hw hP2 hD2 hS
theorem cj_Sr (S0 : CallFix p m c cc nL s args Ts own) (hM : Met l y wsy rm (jrP D yy wc H.size As) (wQur D yy ad post W1 wc H.size) mc ms (va_A wc H.size)) (cw : CallB R s args own index y bytes maxL ret wsy rm mc ms n ∧ (Cond.static y).before args s = true) (hK : va_K D vwCl (tyl yy) s) (hP : va_P D vwCl V H) (hD : va_D A V) (hS : va_S A s.heap H locs) (hA : ∀ q, s.heap.size ≤ q → A q) (hJ : jdZ A s s.heap)
    (is isR : List Nat) (hni : va_nd is = true) (hC : is.map (fun i => V[i]?) = wc.map some) (hR : isR.map (fun i => V[i]?) = wr.map some) (hnR : va_nd isR = true) (hdis : ∀ i ∈ isR, i ∉ is)
    (hn : As.length = n) (hsize : ls.size = nL) (hst : st0 = As.reverse ++ rest) (hW : (rest.map fun v => v.category).sum ≤ 8) (hdg : decode cc pc = .ok (.invokestatic index, 3)) (hf : cells + mc ≤ R.cells ∧ slots + ms ≤ R.slots)
    (kk : ∀ (u : S) (H1 : Heap) (locs1 : List Loc), post u → va_P D vwCl (wr ++ W1 u) H1 → va_D A (wr ++ W1 u) → va_S A s.heap H1 locs1 → W p l e R s m args below meth c H1 locs1 (cells + mc) (slots + ms) Q (F0 m (pc + 3) ls (.ref (ad u) :: rest))) : W p l e R s m args below meth c H locs cells slots Q (F0 m pc ls st0) := by
  have hpre := cj_pre hK hP hD hS hA hJ is hni hC As
  have hF := va_free (wc := wc) hD hS hA is hC
  refine va_callr (va_runS S0 hM cw ⟨hpre.1, hpre.2⟩ rfl hn hsize hst (lv_room (ls := ls) (rest := st0) (pc := pc) (m := m) hW) hdg hf) hS (fun q _ h => hF q h) hF (fun u ra t H1 locs1 ht hvm hw hB hz1 hk1 hS => ?_)
  obtain ⟨rfl, hP1, hK1, hD1⟩ := hB
  rw [ht] at hP1
  obtain ⟨hP2, hD2⟩ := va_join hP hD is isR hC hR hnR hdis hk1 hF hP1 hD1
  exact kk u H1 locs1 hw hP2 hD2 hS
end MYSB
/-! small numbers of capacities -/
theorem nl_sum {m g f : Nat} (h : m + g + f < 65536) : nI m + (if nI g < nI f then nI f else nI g) = nI (m + if g < f then f else g) := by
  by_cases c : g < f
  · rw [if_pos (nI_lt c (by omega)), if_pos c]; exact nI_add m f
  · rw [if_neg (nI_nlt (by omega) (by omega)), if_neg c]; exact nI_add m g
theorem nl_lt {m g f : Nat} (h : m + g + f < 65536) : (m + if g < f then f else g) < 65536 := by split <;> omega
theorem nl_pos {m g f : Nat} (h : 0 < f) : 0 < m + if g < f then f else g := by split <;> omega
theorem nl_nhuge {n : Nat} (h : n < 65536) : ¬ (2147483639 : Int32) < nI n := show ¬ nI 2147483639 < nI n from nI_nlt (by omega) (by decide)
theorem nI_ne {a b : Nat} (ha : a < 2 ^ 31) (hb : b < 2 ^ 31) (h : a ≠ b) : ¬ nI a = nI b := fun q => h ((nI_eq ha hb).mp q)
theorem nl_nmax {n : Nat} (h : n < 65536) : ¬ nI n = (2147483647 : Int32) := show ¬ nI n = nI 2147483647 from nI_ne (by omega) (by decide) (by omega)
theorem sb_capE {q m : Nat} (h : m < q) : (m + if q - m < m + 2 then m + 2 else q - m) = sb_cap q m := by
  rw [show sb_cap q m = if 2 * m + 2 < q then q else 2 * m + 2 from if_neg (by omega)]
  split <;> split <;> omega
theorem sb_capL {q m : Nat} (h : m < q) (h2 : q ≤ 20000) : sb_cap q m < 65536 := by
  rw [show sb_cap q m = if 2 * m + 2 < q then q else 2 * m + 2 from if_neg (by omega)]
  split <;> omega
theorem nI_minN {n m : Nat} (h : n ≤ m) (hm : m < 2 ^ 31) : (if nI m < nI n then nI m else nI n) = nI n := if_neg (nI_nlt h hm)
theorem nI_subLE {q m : Nat} (h : q ≤ m) (hm : m < 2 ^ 30) (hq : q < 2 ^ 30) : nI q - nI m ≤ 0 := by
  rw [Int32.le_iff_toInt_le, show (nI q - nI m).toInt = (q : Int) - m from pk_sub_toInt (by omega) (by omega), Int32.toInt_zero]; omega
theorem nI_subNLE {q m : Nat} (h : ¬ q ≤ m) (hm : m < 2 ^ 30) (hq : q < 2 ^ 30) : ¬ nI q - nI m ≤ 0 := by
  rw [Int32.le_iff_toInt_le, show (nI q - nI m).toInt = (q : Int) - m from pk_sub_toInt (by omega) (by omega), Int32.toInt_zero]; omega
theorem z1 (x : Nat) : 0 + x + 0 ≤ x := Nat.le_of_eq (Nat.zero_add x)
theorem z2 (x : Nat) : 0 + x + 0 + 0 ≤ x := Nat.le_of_eq (Nat.zero_add x)
theorem nI_pos2 {n : Nat} (h : n < 2 ^ 31) : (0 : Int32) ≤ nI n := nI_pos' h
theorem sL {v k : Nat} (h : k ≤ v) (hv : v < 2 ^ 31) (hk : k < 2 ^ 31) : -nI v ≤ -nI k := (sb_nle hv hk).mpr h
theorem sNL {v k : Nat} (h : v < k) (hv : v < 2 ^ 31) (hk : k < 2 ^ 31) : ¬ -nI v ≤ -nI k := fun q => by have := (sb_nle hv hk).mp q; omega
theorem sG {v k : Nat} (h : v < k) (hv : v < 2 ^ 31) (hk : k < 2 ^ 31) : -nI k < -nI v := (sb_nlt hk hv).mpr h
theorem sNG {v k : Nat} (h : k ≤ v) (hv : v < 2 ^ 31) (hk : k < 2 ^ 31) : ¬ -nI k < -nI v := fun q => by have := (sb_nlt hk hv).mp q; omega
theorem sGE {v k : Nat} (h : v ≤ k) (hv : v < 2 ^ 31) (hk : k < 2 ^ 31) : -nI k ≤ -nI v := (sb_nle hk hv).mpr h
theorem sNGE {v k : Nat} (h : k < v) (hv : v < 2 ^ 31) (hk : k < 2 ^ 31) : ¬ -nI k ≤ -nI v := fun q => by have := (sb_nle hk hv).mp q; omega
theorem dec1 {p : Nat} : nI (p + 1) + Int32.ofInt (-1) = nI p := by
  rw [show Int32.ofInt (-1) = (-1 : Int32) by decide]
  exact sb_m1 (Nat.succ_pos p)
theorem sb_capB {q m : Nat} (hm : m ≤ 65536) (hq : q ≤ 20000) : sb_cap q m ≤ 65536 := by
  unfold sb_cap
  split
  · exact hm
  · split <;> omega
/-- the bytes behind getChars of a number below 1000, told from its first place -/
def gcB (b : Nat → Int32) (n k : Nat) : Nat → Int32 := if k < 10 then upd b n (sb_b (48 + k % 10)) else if k < 100 then upd (upd b (n + 1) (sb_b (48 + k % 10))) n (sb_b (48 + k / 10)) else upd (upd (upd b (n + 2) (sb_b (48 + k % 100 % 10))) (n + 1) (sb_b (48 + k % 100 / 10))) n (sb_b (48 + k / 100 % 10))
theorem gc_Fit {b : Nat → Int32} {n k : Nat} (h : sb_Fit b) : sb_Fit (gcB b n k) := by
  unfold gcB
  split
  · exact sb_fitU h (sb_fitB _)
  · split
    · exact sb_fitU (sb_fitU h (sb_fitB _)) (sb_fitB _)
    · exact sb_fitU (sb_fitU (sb_fitU h (sb_fitB _)) (sb_fitB _)) (sb_fitB _)
theorem gc_Lat {t : Nat → Nat} {n m k : Nat} {b b2 : Nat → Int32} (hL : sb_Lat t n b) (hnm : n ≤ m) (hb : ∀ j, j < m → b2 j = b j) (hk : k < 1000) : sb_Lat (sb_cat t n (sb_dec k)) (n + sb_dg k) (gcB b2 n k) := by
  refine sb_latPut hL (fun j hj => ?_) (fun i hi => ⟨by unfold sb_dec; omega, ?_⟩)
  · unfold gcB
    split
    · rw [pk_un (by omega)]; exact hb j (by omega)
    · split
      · rw [pk_un (by omega), pk_un (by omega)]; exact hb j (by omega)
      · rw [pk_un (by omega), pk_un (by omega), pk_un (by omega)]; exact hb j (by omega)
  · unfold gcB sb_dec
    by_cases h0 : k < 10
    · have ed : sb_dg k = 1 := if_pos h0
      rw [ed] at hi ⊢
      obtain rfl : i = 0 := by omega
      rw [if_pos h0, Nat.add_zero n, pk_us]
      show sb_b (48 + k % 10) = sb_b (48 + k / 1 % 10)
      rw [Nat.div_one]
    · by_cases h1 : k < 100
      · have ed : sb_dg k = 2 := (if_neg h0).trans (if_pos h1)
        rw [ed] at hi ⊢
        rw [if_neg h0, if_pos h1]
        obtain rfl | rfl : i = 0 ∨ i = 1 := by omega
        · rw [Nat.add_zero n, pk_us]
          show sb_b (48 + k / 10) = sb_b (48 + k / 10 % 10)
          rw [show k / 10 % 10 = k / 10 by omega]
        · rw [pk_un (by omega), pk_us]
          show sb_b (48 + k % 10) = sb_b (48 + k / 1 % 10)
          rw [Nat.div_one]
      · have ed : sb_dg k = 3 := (if_neg h0).trans ((if_neg h1).trans (if_pos hk))
        rw [ed] at hi ⊢
        rw [if_neg h0, if_neg h1]
        obtain rfl | rfl | rfl : i = 0 ∨ i = 1 ∨ i = 2 := by omega
        · rw [Nat.add_zero n, pk_us]
        · rw [pk_un (by omega), pk_us]
          show sb_b (48 + k % 100 / 10) = sb_b (48 + k / 10 % 10)
          rw [show k % 100 / 10 = k / 10 % 10 by omega]
        · rw [pk_un (by omega), pk_un (by omega), pk_us]
          show sb_b (48 + k % 100 % 10) = sb_b (48 + k / 1 % 10)
          rw [show k % 100 % 10 = k / 1 % 10 by omega]
theorem sb_putC {t : Nat → Nat} {n m k : Nat} {b b2 : Nat → Int32} (hL : sb_Lat t n b) (hnm : n ≤ m) (hb : ∀ j, j < m → b2 j = b j) (hk : k < 256) : sb_Lat (sb_cat t n (fun _ => k)) (n + 1) (upd b2 n (sb_b k)) := sb_latPut hL (fun j hj => by rw [pk_un (by omega)]; exact hb j (by omega)) (fun i hi => by
  obtain rfl : i = 0 := by omega
  exact ⟨hk, pk_us⟩)
