/-! line, character: what stays below the room, their preconditions, their ends -/
def Inv (C S m : Nat) : Prop := (C ≤ 1 ∧ S ≤ 6) ∨ (m ≤ 220 ∧ S ≤ 2 * m + 6 ∧ 2 * C ≤ m + 2)
theorem Inv.step {C S m q : Nat} (h : Inv C S m) (hq : q ≤ 110) : Inv (C + gC q m) (S + gS q m) (sb_cap q m) := by
  unfold gC gS
  by_cases c : q ≤ m
  · rw [if_pos c, if_pos c, show sb_cap q m = m from if_pos c]; exact h
  · rw [if_neg c, if_neg c]
    have e : sb_cap q m = if 2 * m + 2 < q then q else 2 * m + 2 := if_neg c
    have h1 : 2 * m + 2 ≤ sb_cap q m := by rw [e]; split <;> omega
    have h2 : sb_cap q m ≤ 220 := by rw [e]; split <;> omega
    right
    rcases h with ⟨a, b⟩ | ⟨a, b, d⟩ <;> refine ⟨h2, ?_, ?_⟩ <;> omega
theorem Inv.c {C S m : Nat} (h : Inv C S m) : C ≤ 120 := by rcases h with ⟨a, b⟩ | ⟨a, b, d⟩ <;> omega
theorem Inv.s {C S m : Nat} (h : Inv C S m) : S ≤ 450 := by rcases h with ⟨a, b⟩ | ⟨a, b, d⟩ <;> omega
theorem lnT_t {n L : Nat} {ks ts : Nat → Int32} {hid : Int32} (hh : hb hid (nI L) = true) (hL : L < 10) : lnT n ks ts hid (nI L) = lnL ks ts (nI L) n 0 (sb_cat (sb_cat (sb_cat (fun _ => 0) 0 (sb_dec L)) (0 + sb_dg L) (fun _ => 33)) (0 + sb_dg L + 1) (fun _ => 58)) (0 + sb_dg L + 1 + 1) := by unfold lnT; rw [hh, nI_clamp (by omega)]; rfl
theorem lnT_f {n L : Nat} {ks ts : Nat → Int32} {hid : Int32} (hh : hb hid (nI L) = false) (hL : L < 10) : lnT n ks ts hid (nI L) = lnL ks ts (nI L) n 0 (sb_cat (sb_cat (fun _ => 0) 0 (sb_dec L)) (0 + sb_dg L) (fun _ => 58)) (0 + sb_dg L + 1) := by unfold lnT; rw [hh, nI_clamp (by omega)]; rfl
def zrP (D : va_G) (y : Nat → ClassId) (ws : va_W) (sz : Nat) (av : List Value) : Array Value → State → Prop := va_Pc av (fun U => U.heap.size = sz ∧ va_P D vwCl ws U.heap ∧ va_K D vwCl (tyl y) U ∧ va_D (fun _ => True) ws ∧ thrZ (va_A ws sz) U U.heap ∧ jdZ (va_A ws sz) U U.heap)
theorem zrP_blind {D : va_G} {y : Nat → ClassId} {ws : va_W} {sz : Nat} {av : List Value} : FrameBlind (zrP D y ws sz av) := fun a U g mk q => ⟨q.1, q.2.1, q.2.2.1, va_K.moved (u := U) (U := U.calling g mk a) (Vm.Alike.refl U.vm) q.2.2.2.1, q.2.2.2.2.1, thrZ.moved (u := U) (U := U.calling g mk a) (Vm.Alike.refl U.vm) q.2.2.2.2.2.1, jdZ.moved (u := U) (U := U.calling g mk a) (Vm.Alike.refl U.vm) q.2.2.2.2.2.2⟩
def xQui {S : Type} (D : va_G) (y : Nat → ClassId) (k : Nat) (r : Int32) (post : S → Prop) (W1 : S → va_W) (ws : va_W) (sz : Nat) : Array Value → State → Outcome → State → Prop := va_Qi (fun r' u => k = 0 ∧ r' = r ∧ post u) (fun u t => wrB D y (W1 u) ws sz t) (va_A ws sz)
section MYT
variable {p : Program} {l : Launch} {e : Env} {R : Room} {s : State} {m : MethodId} {args : Array Value} {below : List Frame} {meth : Method} {c : Code} {H : Heap} {locs : List Loc} {cells slots : Nat} {Q : State → Prop}
variable {D : va_G} {yy : Nat → ClassId} {V wc w0 w1 wr : va_W} {St : Type} {post : St → Prop} {W1 : St → va_W} {y : MethodName} {bytes cc : ByteArray} {maxL nL n index N ci b mc ms k : Nat} {ret : Option FieldType} {wsy : List Cond} {rm : Room} {Ts : List Cond} {own C : String} {T : u_T} {fs As rest st0 : List Value} {r v : Int32} {pc : Nat} {ls : Array Slot} {A : Nat → Prop}
theorem W_cs {C S m9 : Nat} {g : JFrame} (hI : Inv C S m9) (kk : ∀ C S : Nat, Inv C S m9 → W p l e R s m args below meth c H locs C S Q g) : W p l e R s m args below meth c H locs C S Q g := kk C S hI
theorem xret_ui (u : St) (hp : post u) (hx : p.tables.exec = Jvm.exec) (hb : c.code = cc) (hr : meth.sig.returnType = some .int) (hlocks : meth.locks = false) (hAe : va_A w0 s.heap.size = A) (hK : va_K D vwCl (tyl yy) s) (hP : va_P D vwCl V H) (hD : va_D A V) (hS : va_S A s.heap H locs) (is : List Nat) (hn : va_nd is = true) (hC : is.map (fun i => V[i]?) = (W1 u).map some)
    (hdg : decode cc pc = .ok (.ireturn, 1)) : W p l e R s m args below meth c H locs cells slots (vx_MQ below (xQui D yy 0 v post W1 w0 s.heap.size) (xX D yy 0 w1 w0 s.heap.size) args s cells slots (va_A w0 s.heap.size)) (F0 m pc ls [.int v]) :=
  vx_ret (W.iret hx hb hr (fun t ht hW => ⟨⟨v, u, rfl, ⟨rfl, rfl, hp⟩, w_end hAe hK hP hD is hn hC ht hW⟩, by rw [hAe]; exact hS.F ht⟩) (by rw [hAe]; exact hS.2.2) hdg hlocks)
theorem xret_uz {ty : FieldType} (u : St) (hp : post u) (hx : p.tables.exec = Jvm.exec) (hb : c.code = cc) (hr : meth.sig.returnType = some ty) (hnn : narrow ty (.int v) = .int v) (hlocks : meth.locks = false) (hAe : va_A w0 s.heap.size = A) (hK : va_K D vwCl (tyl yy) s) (hP : va_P D vwCl V H) (hD : va_D A V) (hS : va_S A s.heap H locs) (is : List Nat) (hn : va_nd is = true) (hC : is.map (fun i => V[i]?) = (W1 u).map some)
    (hdg : decode cc pc = .ok (.ireturn, 1)) : W p l e R s m args below meth c H locs cells slots (vx_MQ below (xQui D yy 0 v post W1 w0 s.heap.size) (xX D yy 0 w1 w0 s.heap.size) args s cells slots (va_A w0 s.heap.size)) (F0 m pc ls [.int v]) :=
  vx_ret (W.zret hx hb hr hnn (fun t ht hW => ⟨⟨v, u, rfl, ⟨rfl, rfl, hp⟩, w_end hAe hK hP hD is hn hC ht hW⟩, by rw [hAe]; exact hS.F ht⟩) (by rw [hAe]; exact hS.2.2) hdg hlocks)
theorem cz_pre (hK : va_K D vwCl (tyl yy) s) (hP : va_P D vwCl V H) (hD : va_D A V) (hS : va_S A s.heap H locs) (hA : ∀ q, s.heap.size ≤ q → A q) (hZ : thrZ A s s.heap) (hJ : jdZ A s s.heap) (is : List Nat) (hni : va_nd is = true) (hC : is.map (fun i => V[i]?) = wc.map some) (av : List Value) : FrameBlind (zrP D yy wc H.size av) ∧ ∀ U : State, U.heap = H → s.WarmedH U.vm → zrP D yy wc H.size av av.toArray U :=
  ⟨zrP_blind, fun U hU hW => ⟨rfl, by rw [hU], by rw [hU]; exact hP.sub is (pick_map hC), va_K.moved hW.alike hK, (hD.sub is hni hC).weaken (fun _ _ _ _ => trivial), by rw [hU]; exact ((hZ.kept hS.2.1).narrow (va_free (wc := wc) hD hS hA is hC)).moved hW.alike, by rw [hU]; exact ((hJ.kept hS.2.1).narrow (va_free (wc := wc) hD hS hA is hC)).moved hW.alike⟩⟩
theorem cz_Vi (S : CallFix p m c cc nL s args Ts own) (hM : vx_Met l y wsy rm (zrP D yy wc H.size (.ref b :: As)) (xQui D yy k r post W1 wc H.size) (xX D yy k w1 wc H.size) mc ms (va_A wc H.size)) (cw : CallW R s args own C index y bytes maxL ret wsy rm mc ms n) (hK : va_K D vwCl (tyl yy) s) (hP : va_P D vwCl V H) (hD : va_D A V) (hS : va_S A s.heap H locs) (hA : ∀ q, s.heap.size ≤ q → A q) (hZ : thrZ A s s.heap) (hJ : jdZ A s s.heap)
    (is isR : List Nat) (hni : va_nd is = true) (hC : is.map (fun i => V[i]?) = wc.map some) (hR : isR.map (fun i => V[i]?) = wr.map some) (hnR : va_nd isR = true) (hdis : ∀ i ∈ isR, i ∉ is) (he : wc[0]? = some (b, .inr (ci, fs))) (hc : vwCl[ci]? = some (C, T, N))
    (hn : As.length = n) (hsize : ls.size = nL) (hst : st0 = As.reverse ++ .ref b :: rest) (hW : (rest.map fun v => v.category).sum ≤ 8) (hdg : decode cc pc = .ok (.invokevirtual index, 3)) (hf : cells + mc ≤ R.cells ∧ slots + ms ≤ R.slots)
    (kx : ¬ k = 0 → ∀ (ce : Cell) (q9 : Addr) (H1 : Heap) (locs1 : List Loc), va_P D vwCl (wr ++ w1) H1 → va_D A (wr ++ w1) → va_S A s.heap H1 locs1 → H1[q9]? = some ce → ce.vm = .none → s.vm.findClass (exn k) = some ce.cls → vx_W p l e R s m args below meth c H1 locs1 (cells + mc) (slots + ms) Q (F0 m pc ls rest) q9)
    (kk : k = 0 → ∀ (u : St) (H1 : Heap) (locs1 : List Loc), post u → va_P D vwCl (wr ++ W1 u) H1 → va_D A (wr ++ W1 u) → va_S A s.heap H1 locs1 → W p l e R s m args below meth c H1 locs1 (cells + mc) (slots + ms) Q (F0 m (pc + 3) ls (.int r :: rest))) : W p l e R s m args below meth c H locs cells slots Q (F0 m pc ls st0) := by
  have hpre := cz_pre hK hP hD hS hA hZ hJ is hni hC (.ref b :: As)
  have hF := va_free (wc := wc) hD hS hA is hC
  refine vx_calli (vx_runV S hM cw ⟨hpre.1, va_recv hK (hP.sub is (pick_map hC)) hc he, hpre.2⟩ rfl hn hsize hst (lv_room (ls := ls) (rest := st0) (pc := pc) (m := m) hW) hdg hf) hS (fun q _ h => hF q h) hF (fun q _ h => hF q h) (fun E ce q9 u t H1 locs1 ht hvm hk hB hz1 hk1 hS h1 h2 h3 => ?_) (fun r' u t H1 locs1 ht hvm hw hB hz1 hk1 hS => ?_)
  · obtain ⟨hE, hP1, hK1, hD1⟩ := hB
    rw [ht] at hP1
    subst hE
    obtain ⟨hP2, hD2⟩ := va_join hP hD is isR hC hR hnR hdis hk1 hF hP1 hD1
    exact kx hk ce q9 H1 locs1 hP2 hD2 hS h1 h2 h3
  · obtain ⟨hP1, hK1, hD1⟩ := hB
    rw [ht] at hP1
    obtain ⟨hk, rfl, hp⟩ := hw
    obtain ⟨hP2, hD2⟩ := va_join hP hD is isR hC hR hnR hdis hk1 hF hP1 hD1
    exact kk hk u H1 locs1 hp hP2 hD2 hS
end MYT
