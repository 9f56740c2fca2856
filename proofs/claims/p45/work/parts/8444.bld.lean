/-! a builder and Strings beside the archive; String constants -/
section OE
variable {p : Program} {l : Launch} {e : Env} {R : Room} {s : State} {m : MethodId} {args : Array Value} {below : List Frame} {meth : Method} {c : Code} {H : Heap} {locs : List Loc} {cells slots : Nat} {Q : State → Prop}
variable {D : va_G} {yy : Nat → ClassId} {V F E wc w0 ws : va_W} {S : Type} {post : S → Prop} {W1 : S → va_W} {ad : S → Nat} {y : MethodName} {bytes cc : ByteArray} {maxL nL n index N ci b mc ms : Nat} {ret : Option FieldType} {wsy : List Cond} {rm : Room} {Ts : List Cond} {own C : String} {T : u_T} {fs As rest st0 : List Value} {pc : Nat} {ls : Array Slot} {A : Nat → Prop} {sa sn : Nat} {tt : Nat → Nat}
theorem oj_pre (hK : va_K D vwCl (tyl yy) s) (hP : va_P D vwCl (wc ++ F) H) (hD : va_D A (wc ++ F)) (hS : va_S A s.heap H locs) (hA : ∀ q, s.heap.size ≤ q → A q) (hJ : jdZ A s s.heap) (av : List Value) : FrameBlind (jrP D yy wc H.size av) ∧ ∀ U : State, U.heap = H → s.WarmedH U.vm → jrP D yy wc H.size av av.toArray U :=
  ⟨jrP_blind, fun U hU hW => ⟨rfl, by rw [hU], by rw [hU]; exact hP.l, va_K.moved hW.alike hK, hD.l.weaken (fun _ _ _ _ => trivial), by rw [hU]; exact ((hJ.kept hS.2.1).narrow (oc_F hD hS hA)).moved hW.alike⟩⟩
theorem oj_preS (hK : va_K D vwCl (tyl yy) s) (hP : va_P D vwCl (wc ++ F) H) (hD : va_D A (wc ++ F)) (hS : va_S A s.heap H locs) (hA : ∀ q, s.heap.size ≤ q → A q) (hJ : jdZ A s s.heap) (hX : strC sa sn tt A s s.heap) (av : List Value) : FrameBlind (sP D yy wc H.size av sa sn tt) ∧ ∀ U : State, U.heap = H → s.WarmedH U.vm → sP D yy wc H.size av sa sn tt av.toArray U :=
  ⟨sP_blind, fun U hU hW => ⟨rfl, by rw [hU], by rw [hU]; exact hP.l, va_K.moved hW.alike hK, hD.l.weaken (fun _ _ _ _ => trivial), by rw [hU]; exact ((hJ.kept hS.2.1).narrow (oc_F hD hS hA)).moved hW.alike, by rw [hU]; exact ((hX.kept hS.2.1).narrow (oc_F hD hS hA)).moved hW.alike⟩⟩
theorem oe_Vr (S0 : CallFix p m c cc nL s args Ts own) (hM : Met l y wsy rm (jrP D yy wc H.size (.ref b :: As)) (wQur D yy ad post W1 wc H.size) mc ms (va_A wc H.size)) (cw : CallW R s args own C index y bytes maxL ret wsy rm mc ms n) (hK : va_K D vwCl (tyl yy) s) (hP : va_P D vwCl (wc ++ F) H) (hD : va_D A (wc ++ F)) (hS : va_S A s.heap H locs) (hA : ∀ q, s.heap.size ≤ q → A q) (hJ : jdZ A s s.heap) (he : wc[0]? = some (b, .inr (ci, fs))) (hc : vwCl[ci]? = some (C, T, N))
    (hn : As.length = n) (hsize : ls.size = nL) (hst : st0 = As.reverse ++ .ref b :: rest) (hW : (rest.map fun v => v.category).sum ≤ 8) (hdg : decode cc pc = .ok (.invokevirtual index, 3)) (hf : cells + mc ≤ R.cells ∧ slots + ms ≤ R.slots)
    (kk : ∀ (u : S) (H1 : Heap) (locs1 : List Loc), post u → va_P D vwCl (W1 u ++ F) H1 → va_D A (W1 u ++ F) → va_S A s.heap H1 locs1 → W p l e R s m args below meth c H1 locs1 (cells + mc) (slots + ms) Q (F0 m (pc + 3) ls (.ref (ad u) :: rest))) : W p l e R s m args below meth c H locs cells slots Q (F0 m pc ls st0) := by
  have hpre := oj_pre hK hP hD hS hA hJ (.ref b :: As)
  have hF := oc_F hD hS hA
  refine va_callr (va_runV S0 hM cw ⟨hpre.1, va_recv hK hP.l hc he, hpre.2⟩ rfl hn hsize hst (lv_room (ls := ls) (rest := st0) (pc := pc) (m := m) hW) hdg hf) hS (fun q _ h => hF q h) hF (fun u ra t H1 locs1 ht hvm hw hB hz1 hk1 hS => ?_)
  obtain ⟨rfl, hP1, hK1, hD1⟩ := hB
  rw [ht] at hP1
  obtain ⟨hP2, hD2⟩ := oc_join hP hD hk1 hF hP1 hD1
  exact kk u H1 locs1 hw hP2 hD2 hS
theorem oe_Sr (S0 : CallFix p m c cc nL s args Ts own) (hM : Met l y wsy rm (sP D yy wc H.size (.ref b :: As) sa sn tt) (wQur D yy ad post W1 wc H.size) mc ms (va_A wc H.size)) (cw : CallW R s args own C index y bytes maxL ret wsy rm mc ms n) (hK : va_K D vwCl (tyl yy) s) (hP : va_P D vwCl (wc ++ F) H) (hD : va_D A (wc ++ F)) (hS : va_S A s.heap H locs) (hA : ∀ q, s.heap.size ≤ q → A q) (hJ : jdZ A s s.heap) (hX : strC sa sn tt A s s.heap) (he : wc[0]? = some (b, .inr (ci, fs))) (hc : vwCl[ci]? = some (C, T, N))
    (hn : As.length = n) (hsize : ls.size = nL) (hst : st0 = As.reverse ++ .ref b :: rest) (hW : (rest.map fun v => v.category).sum ≤ 8) (hdg : decode cc pc = .ok (.invokevirtual index, 3)) (hf : cells + mc ≤ R.cells ∧ slots + ms ≤ R.slots)
    (kk : ∀ (u : S) (H1 : Heap) (locs1 : List Loc), post u → va_P D vwCl (W1 u ++ F) H1 → va_D A (W1 u ++ F) → va_S A s.heap H1 locs1 → W p l e R s m args below meth c H1 locs1 (cells + mc) (slots + ms) Q (F0 m (pc + 3) ls (.ref (ad u) :: rest))) : W p l e R s m args below meth c H locs cells slots Q (F0 m pc ls st0) := by
  have hpre := oj_preS hK hP hD hS hA hJ hX (.ref b :: As)
  have hF := oc_F hD hS hA
  refine va_callr (va_runV S0 hM cw ⟨hpre.1, va_recv hK hP.l hc he, hpre.2⟩ rfl hn hsize hst (lv_room (ls := ls) (rest := st0) (pc := pc) (m := m) hW) hdg hf) hS (fun q _ h => hF q h) hF (fun u ra t H1 locs1 ht hvm hw hB hz1 hk1 hS => ?_)
  obtain ⟨rfl, hP1, hK1, hD1⟩ := hB
  rw [ht] at hP1
  obtain ⟨hP2, hD2⟩ := oc_join hP hD hk1 hF hP1 hD1
  exact kk u H1 locs1 hw hP2 hD2 hS
variable {Wn : (Nat → Nat) → va_W}
theorem oe_I (S0 : CallFix p m c cc nL s args Ts own) (hM : Met l y wsy rm (jrP D yy wc H.size (.ref b :: As)) (wQn D yy Wn wc H.size) mc ms (va_A wc H.size)) (cw : CallB R s args own index y bytes maxL none wsy rm mc ms n ∧ y.name = "<init>" ∧ (Cond.instanceMethod y).before args s = true) (hK : va_K D vwCl (tyl yy) s) (hP : va_P D vwCl (wc ++ F) H) (hD : va_D A (wc ++ F)) (hS : va_S A s.heap H locs) (hA : ∀ q, s.heap.size ≤ q → A q) (hJ : jdZ A s s.heap)
    (hn : As.length = n) (hsize : ls.size = nL) (hst : st0 = As.reverse ++ .ref b :: rest) (hW : (rest.map fun v => v.category).sum ≤ 8) (hdg : decode cc pc = .ok (.invokespecial index, 3)) (hf : cells + mc ≤ R.cells ∧ slots + ms ≤ R.slots)
    (kk : ∀ (u : Nat → Nat) (H1 : Heap) (locs1 : List Loc), va_P D vwCl (Wn u ++ F) H1 → va_D A (Wn u ++ F) → va_S A s.heap H1 locs1 → W p l e R s m args below meth c H1 locs1 (cells + mc) (slots + ms) Q (F0 m (pc + 3) ls rest)) : W p l e R s m args below meth c H locs cells slots Q (F0 m pc ls st0) := by
  have hpre := oj_pre hK hP hD hS hA hJ (.ref b :: As)
  have hF := oc_F hD hS hA
  refine va_callv (va_runI S0 hM cw ⟨hpre.1, hpre.2⟩ rfl hn hsize hst (lv_room (ls := ls) (rest := st0) (pc := pc) (m := m) hW) hdg hf) hS (fun q _ h => hF q h) hF (fun u t H1 locs1 ht hvm hw hB hz1 hk1 hS => ?_)
  obtain ⟨hP1, hK1, hD1⟩ := hB
  rw [ht] at hP1
  obtain ⟨hP2, hD2⟩ := oc_join hP hD hk1 hF hP1 hD1
  exact kk u H1 locs1 hP2 hD2 hS
theorem P_sw (h : va_P D vwCl (V ++ E) H) : va_P D vwCl (E ++ V) H := fun k q hq => by
  rcases List.mem_append.mp (List.mem_of_getElem? hq) with h1 | h1
  · obtain ⟨j, hj⟩ := List.getElem?_of_mem h1
    exact h.r j q hj
  · obtain ⟨j, hj⟩ := List.getElem?_of_mem h1
    exact h.l j q hj
theorem D_sw (h : va_D A (V ++ E)) : va_D A (E ++ V) := va_D.app h.r h.l (fun i j x z hx hz hxz => by
  have hj := (List.getElem?_eq_some_iff.mp hz).1
  have := h.1 j (V.length + i) z x (by rw [List.getElem?_append_left hj]; exact hz) (by rw [List.getElem?_append_right (Nat.le_add_right _ _), Nat.add_sub_cancel_left]; exact hx) hxz.symm
  omega)
theorem oc_apart (hP : va_P D vwCl (V ++ E) H) (hD : va_D A (V ++ E)) {k : Nat} {q : Nat × va_E} (hq : E[k]? = some q) : ¬ va_A V H.size q.1 := by
  have hl := (hP.r k q hq).lt
  intro h
  rcases h with ⟨k2, e, h⟩ | h
  · have hkl := (List.getElem?_eq_some_iff.mp h).1
    have := hD.1 k2 (V.length + k) (q.1, e) q (by rw [List.getElem?_append_left hkl]; exact h) (by rw [List.getElem?_append_right (Nat.le_add_right _ _), Nat.add_sub_cancel_left]; exact hq) rfl
    omega
  · omega
/-- a new String beside the archive is a given one -/
theorem strC_of (hts : ∀ w ∈ Ts, w.before args s = true) (hin : ∀ w ∈ u_ws RJ0 TJ0 4, w ∈ Ts) (hK : va_K D vwCl (tyl yy) s) (hP : va_P D vwCl (V ++ E) H) (hD : va_D A (V ++ E)) {tv : Nat} {bb : Nat → Int32} (i j : Nat) (hi : E[i]? = some (sa, .inr (0, [.ref tv, .int 0, .int 0, .int 0]))) (hj : E[j]? = some (tv, .inl (yy 2, sn, .inl bb))) (hb : ∀ k, k < sn → tt k < 256 ∧ bb k = sb_b (tt k)) : strC sa sn tt (va_A V H.size) s H := by
  have n1 := oc_apart hP hD hi
  have n2 := oc_apart hP hD hj
  obtain ⟨r, h1, cell, q1, q2, q3, q4⟩ := hP.r i _ hi
  have hr : r = (RJ0, TJ0, 4) := Option.some.inj (h1.symm.trans rfl)
  subst hr
  obtain ⟨hS, hfc, kC, hkC, hkind⟩ := hK.1 0 _ rfl
  refine ⟨tv, ⟨cell, q1, by rw [q3]; rfl, by rw [q2]; exact hfc, n1⟩, ?_, ?_, ?_, fun k hk => (hb k hk).1⟩
  · obtain ⟨cf, kf, fi, f, hi2, hsl⟩ := hS 1 (by decide)
    exact ⟨cf, kf, fi, f, cell, hi2, (u_facts hfc hkC (u_lays hts hin (by decide)) hi2).1, q1, (by rw [q3]; exact fun h => nomatch h), (by rw [hsl, q4 1 (by decide)]; rfl), n1⟩
  · obtain ⟨cf, kf, fi, f, hi2, hsl⟩ := hS 0 (by decide)
    exact ⟨cf, kf, fi, f, cell, hi2, (u_facts hfc hkC (u_lays hts hin (by decide)) hi2).1, q1, (by rw [q3]; exact fun h => nomatch h), (by rw [hsl, q4 0 (by decide)]; rfl), n1⟩
  · refine ⟨_, hP.r j _ hj, (hK.2 2 _ rfl).1 sn (fun k => .int (bb k)), fun h => (nomatch h), ?_, ?_, fun k hk => ?_, n2⟩
    · show sn ≤ (vp_cell (yy 2) (sn, .inl bb)).slots.size
      rw [vp_cell_i, arrV_size] <;> exact Nat.le_refl _
    · show (vp_cell (yy 2) (sn, .inl bb)).slots.size.toInt32 = _
      rw [vp_cell_i, arrV_size] <;> rfl
    · show (vp_cell (yy 2) (sn, .inl bb)).slots[k]? = _
      rw [vp_cell_i, arrV_read _ _ hk, (hb k hk).2]
theorem va_ldcwS {tx : String} {q : Nat} (hexec : p.tables.exec = Jvm.exec) (hb : c.code = cc) (hown : s.vm.findClass own = some m.cls) (hZ : vk_R own index tx q s) (hdg : decode cc pc = .ok (.ldc_w index, 3))
    (k : W p l e R s m args below meth c H locs cells slots Q (F0 m (pc + 3) ls (.ref q :: rest))) : W p l e R s m args below meth c H locs cells slots Q (F0 m pc ls rest) := by
  intro T hT X
  obtain ⟨t, a1, b1⟩ := k T hT X
  exact ⟨t, X.ldcStringW hexec hown (text := tx) (a := q) hZ.1 hZ.2 (g := F0 m pc ls rest) rfl (by rw [hb]; exact hdg) t a1, b1⟩
end OE
def klP (D : va_G) (y : Nat → ClassId) (ws : va_W) (sz : Nat) (av : List Value) (ad : Nat → Nat) : Array Value → State → Prop := va_Pc av (fun U => U.heap.size = sz ∧ va_P D vwCl ws U.heap ∧ va_K D vwCl (tyl y) U ∧ va_D (fun _ => True) ws ∧ thrZ (va_A ws sz) U U.heap ∧ ncP U ∧ jdZ (va_A ws sz) U U.heap ∧ kS ad (va_A ws sz) U U.heap)
theorem klP_blind {D : va_G} {y : Nat → ClassId} {ws : va_W} {sz : Nat} {av : List Value} {ad : Nat → Nat} : FrameBlind (klP D y ws sz av ad) := fun a U g mk q => ⟨q.1, q.2.1, q.2.2.1, va_K.moved (u := U) (U := U.calling g mk a) (Vm.Alike.refl U.vm) q.2.2.2.1, q.2.2.2.2.1, thrZ.moved (u := U) (U := U.calling g mk a) (Vm.Alike.refl U.vm) q.2.2.2.2.2.1, ncP.moved (u := U) (U := U.calling g mk a) (Vm.Alike.refl U.vm) q.2.2.2.2.2.2.1, jdZ.moved (u := U) (U := U.calling g mk a) (Vm.Alike.refl U.vm) q.2.2.2.2.2.2.2.1, kS.same (u := U) (U := U.calling g mk a) rfl (Vm.Alike.refl U.vm) q.2.2.2.2.2.2.2.2⟩
section OKL
variable {p : Program} {l : Launch} {e : Env} {R : Room} {s : State} {m : MethodId} {args : Array Value} {below : List Frame} {meth : Method} {c : Code} {H : Heap} {locs : List Loc} {cells slots : Nat} {Q : State → Prop}
variable {D : va_G} {yy : Nat → ClassId} {V E : va_W} {y : MethodName} {bytes cc : ByteArray} {maxL nL n index mc ms : Nat} {ret : Option FieldType} {wsy : List Cond} {rm : Room} {Ts : List Cond} {own : String} {As rest st0 : List Value} {pc : Nat} {ls : Array Slot} {A : Nat → Prop} {post : Int32 → va_W → Prop} {ad : Nat → Nat}
theorem ow_K (S : CallFix p m c cc nL s args Ts own) (hM : Met l y wsy rm (klP D yy V H.size As ad) (oQi D yy 0 post V H.size) mc ms (va_A V H.size)) (cw : CallB R s args own index y bytes maxL ret wsy rm mc ms n ∧ (Cond.static y).before args s = true) (hK : va_K D vwCl (tyl yy) s) (hP : va_P D vwCl (V ++ E) H) (hD : va_D A (V ++ E)) (hS : va_S A s.heap H locs) (hA : ∀ q, s.heap.size ≤ q → A q) (hZ : thrZ A s s.heap) (hN : ncP s) (hJ : jdZ A s s.heap) (hX : kS ad A s s.heap)
    (hn : As.length = n) (hsize : ls.size = nL) (hst : st0 = As.reverse ++ rest) (hW : (rest.map fun v => v.category).sum ≤ 8) (hdg : decode cc pc = .ok (.invokestatic index, 3)) (hf : cells + mc ≤ R.cells ∧ slots + ms ≤ R.slots)
    (kk : ∀ (r : Int32) (V1 : va_W) (H1 : Heap) (locs1 : List Loc), post r V1 → va_P D vwCl (V1 ++ E) H1 → va_D A (V1 ++ E) → va_S A s.heap H1 locs1 → W p l e R s m args below meth c H1 locs1 (cells + mc) (slots + ms) Q (F0 m (pc + 3) ls (.int r :: rest))) : W p l e R s m args below meth c H locs cells slots Q (F0 m pc ls st0) := by
  have hpre := oc_pre hK hP hD hS hA hZ hN hJ As
  have hF := oc_F hD hS hA
  refine va_calli (va_runS S hM cw ⟨klP_blind, fun U hU hW => ?_⟩ rfl hn hsize hst (lv_room (ls := ls) (rest := st0) (pc := pc) (m := m) hW) hdg hf) hS (fun q _ h => hF q h) hF (fun v u t H1 locs1 ht hvm hk hB hz1 hk1 hS => ?_)
  · obtain ⟨h1, h2, h3, h4, h5, h6, h7, h8⟩ := hpre.2 U hU hW
    exact ⟨h1, h2, h3, h4, h5, h6, h7, h8, by rw [hU]; exact kS.warm hW ((hX.kept hS.2.1).narrow hF)⟩
  · obtain ⟨-, hp⟩ := hk
    obtain ⟨hP1, hK1, hD1⟩ := hB
    rw [ht] at hP1
    obtain ⟨hP2, hD2⟩ := oc_join hP hD hk1 hF hP1 hD1
    exact kk v u H1 locs1 hp hP2 hD2 hS
end OKL
theorem a_int (l : Launch) (D : va_G) (y : Nat → ClassId) (sz : Nat) (a v n k : Nat) (ml : Int32) (t : Nat → Nat) (b : Nat → Int32) (hn : n + sb_dg k ≤ 16) (hL : sb_Lat t n b) (hfit : sb_Fit b) (hk : k < 1000) : Met l yJ4_append_bf812 wsJ4_append_bf812 (rmx 7 240 0 0) (jrP D y [(a, .inr (1, [.ref v, .int 0, .int ml, .int (nI n)])), (v, .inl (y 2, 16, .inl (b)))] sz [.ref a, .int (nI k)]) (wQur (S := Nat × (Nat → Int32)) D y (fun _ => a) (fun u => sb_Lat (sb_cat t n (sb_dec k)) (n + sb_dg k) u.2 ∧ sb_Fit u.2) (fun u => [(a, .inr (1, [.ref u.1, .int 0, .int ml, .int (nI (n + sb_dg k))])), (u.1, .inl (y 2, 16, .inl u.2))]) [(a, .inr (1, [.ref v, .int 0, .int ml, .int (nI n)])), (v, .inl (y 2, 16, .inl (b)))] sz) 0 0 (va_A [(a, .inr (1, [.ref v, .int 0, .int ml, .int (nI n)])), (v, .inl (y 2, 16, .inl (b)))] sz) := by
  have h := c_J4_append_bf812 l D y sz a v n 16 k ml t b (by decide) (by omega) (by omega) hL hfit hk
  rw [show gC (n + sb_dg k) 16 = 0 from if_pos hn, show gS (n + sb_dg k) 16 = 0 from if_pos hn] at h
  simp only [show sb_cap (n + sb_dg k) 16 = 16 from if_pos hn] at h
  exact h
