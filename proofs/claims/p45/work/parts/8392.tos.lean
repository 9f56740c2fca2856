/-! a builder's text as a String -/
theorem ck_ge {a b : Nat} (h : a ≤ b) (hb : b < 2 ^ 31) : nI a ≤ nI b := (nI_leI (a := a) (b := b) (by omega) hb).mpr h
theorem ck_ge0 {b : Nat} (hb : b < 2 ^ 31) : (0 : Int32) ≤ nI b := by
  have h := ck_ge (Nat.zero_le b) hb
  rwa [nI_0] at h
theorem mn_le {n m : Nat} (h : n ≤ m) (hm : m < 2 ^ 31) : (if nI n < nI m then nI n else nI m) = nI n := by
  by_cases h2 : nI n < nI m
  · exact if_pos h2
  · have : ¬ n < m := fun h3 => h2 ((nI_ltI (a := n) (b := m) (by omega) hm).mpr h3)
    rw [if_neg h2, show m = n by omega]
section MYCI
variable {p : Program} {l : Launch} {e : Env} {R : Room} {s : State} {m : MethodId} {args : Array Value} {below : List Frame} {meth : Method} {c : Code} {H : Heap} {locs : List Loc} {cells slots : Nat} {Q : State → Prop}
variable {D : va_G} {yy : Nat → ClassId} {V wc wr w0 ws : va_W} {S : Type} {post : S → Prop} {W1 : S → va_W} {y : MethodName} {bytes cc : ByteArray} {maxL nL n index N ci b mc ms : Nat} {wsy : List Cond} {rm : Room} {Ts : List Cond} {own C : String} {T : u_T} {fs As rest st0 : List Value} {pc : Nat} {ls : Array Slot} {A : Nat → Prop}
theorem ck_I (S0 : CallFix p m c cc nL s args Ts own) (hM : Met l y wsy rm (jrP D yy wc H.size (.ref b :: As)) (wQuv D yy post W1 wc H.size) mc ms (va_A wc H.size)) (cw : CallB R s args own index y bytes maxL none wsy rm mc ms n ∧ y.name = "<init>" ∧ (Cond.instanceMethod y).before args s = true) (hK : va_K D vwCl (tyl yy) s) (hP : va_P D vwCl V H) (hD : va_D A V) (hS : va_S A s.heap H locs) (hA : ∀ q, s.heap.size ≤ q → A q) (hJ : jdZ A s s.heap)
    (is isR : List Nat) (hni : va_nd is = true) (hC : is.map (fun i => V[i]?) = wc.map some) (hR : isR.map (fun i => V[i]?) = wr.map some) (hnR : va_nd isR = true) (hdis : ∀ i ∈ isR, i ∉ is)
    (hn : As.length = n) (hsize : ls.size = nL) (hst : st0 = As.reverse ++ .ref b :: rest) (hW : (rest.map fun v => v.category).sum ≤ 8) (hdg : decode cc pc = .ok (.invokespecial index, 3)) (hf : cells + mc ≤ R.cells ∧ slots + ms ≤ R.slots)
    (kk : ∀ (u : S) (H1 : Heap) (locs1 : List Loc), post u → va_P D vwCl (wr ++ W1 u) H1 → va_D A (wr ++ W1 u) → va_S A s.heap H1 locs1 → W p l e R s m args below meth c H1 locs1 (cells + mc) (slots + ms) Q (F0 m (pc + 3) ls rest)) : W p l e R s m args below meth c H locs cells slots Q (F0 m pc ls st0) := by
  have hpre := cj_pre hK hP hD hS hA hJ is hni hC (.ref b :: As)
  have hF := va_free (wc := wc) hD hS hA is hC
  refine va_callv (va_runI S0 hM cw ⟨hpre.1, hpre.2⟩ rfl hn hsize hst (lv_room (ls := ls) (rest := st0) (pc := pc) (m := m) hW) hdg hf) hS (fun q _ h => hF q h) hF (fun u t H1 locs1 ht hvm hw hB hz1 hk1 hS => ?_)
  obtain ⟨hP1, hK1, hD1⟩ := hB
  rw [ht] at hP1
  obtain ⟨hP2, hD2⟩ := va_join hP hD is isR hC hR hnR hdis hk1 hF hP1 hD1
  exact kk u H1 locs1 hw hP2 hD2 hS
end MYCI
def tP (D : va_G) (y : Nat → ClassId) (ws : va_W) (sz : Nat) (av : List Value) (a ln : Nat) (t : Nat → Nat) : Array Value → State → Prop := va_Pc av (fun U => U.heap.size = sz ∧ va_P D vwCl ws U.heap ∧ va_K D vwCl (tyl y) U ∧ va_D (fun _ => True) ws ∧ jdZ (va_A ws sz) U U.heap ∧ va_T .byte a ln (fun j => .int (sb_b (t j))) (va_A ws sz) U U.heap)
theorem tP_blind {D : va_G} {y : Nat → ClassId} {ws : va_W} {sz : Nat} {av : List Value} {a ln : Nat} {t : Nat → Nat} : FrameBlind (tP D y ws sz av a ln t) := fun a U g mk q => ⟨q.1, q.2.1, q.2.2.1, va_K.moved (u := U) (U := U.calling g mk a) (Vm.Alike.refl U.vm) q.2.2.2.1, q.2.2.2.2.1, jdZ.moved (u := U) (U := U.calling g mk a) (Vm.Alike.refl U.vm) q.2.2.2.2.2.1, va_T.moved (u := U) (U := U.calling g mk a) (Vm.Alike.refl U.vm) q.2.2.2.2.2.2⟩
section MYTT
variable {p : Program} {l : Launch} {e : Env} {R : Room} {s : State} {m : MethodId} {args : Array Value} {below : List Frame} {meth : Method} {c : Code} {H : Heap} {locs : List Loc} {cells slots : Nat} {Q : State → Prop}
variable {D : va_G} {yy : Nat → ClassId} {V wc wr w0 ws : va_W} {S : Type} {post : S → Prop} {W1 : S → va_W} {ad : S → Nat} {x y : MethodName} {bytes cc : ByteArray} {maxL nL n index N ci b mc ms : Nat} {ret rt : Option FieldType} {wsy : List Cond} {rm : Room} {Ts : List Cond} {own C owner : String} {T : u_T} {fs As rest st0 : List Value} {pc : Nat} {ls : Array Slot} {A : Nat → Prop} {r : Int32}
variable {tv sn : Nat} {tt : Nat → Nat}
theorem tt_pre (hK : va_K D vwCl (tyl yy) s) (hP : va_P D vwCl V H) (hD : va_D A V) (hS : va_S A s.heap H locs) (hA : ∀ q, s.heap.size ≤ q → A q) (hJ : jdZ A s s.heap) (hX : va_T .byte tv sn (fun j => .int (sb_b (tt j))) A s s.heap) (is : List Nat) (hni : va_nd is = true) (hC : is.map (fun i => V[i]?) = wc.map some) (av : List Value) : FrameBlind (tP D yy wc H.size av tv sn tt) ∧ ∀ U : State, U.heap = H → s.WarmedH U.vm → tP D yy wc H.size av tv sn tt av.toArray U :=
  ⟨tP_blind, fun U hU hW => ⟨rfl, by rw [hU], by rw [hU]; exact hP.sub is (pick_map hC), va_K.moved hW.alike hK, (hD.sub is hni hC).weaken (fun _ _ _ _ => trivial), by rw [hU]; exact ((hJ.kept hS.2.1).narrow (va_free (wc := wc) hD hS hA is hC)).moved hW.alike, by rw [hU]; exact ((hX.kept hS.2.1).narrow (va_free (wc := wc) hD hS hA is hC)).moved hW.alike⟩⟩
theorem tt_Si (S0 : CallFix p m c cc nL s args Ts own) (hM : Met l y wsy rm (tP D yy wc H.size As tv sn tt) (wQui D yy r post W1 wc H.size) mc ms (va_A wc H.size)) (cw : CallB R s args own index y bytes maxL ret wsy rm mc ms n ∧ (Cond.static y).before args s = true) (hK : va_K D vwCl (tyl yy) s) (hP : va_P D vwCl V H) (hD : va_D A V) (hS : va_S A s.heap H locs) (hA : ∀ q, s.heap.size ≤ q → A q) (hJ : jdZ A s s.heap) (hX : va_T .byte tv sn (fun j => .int (sb_b (tt j))) A s s.heap)
    (is isR : List Nat) (hni : va_nd is = true) (hC : is.map (fun i => V[i]?) = wc.map some) (hR : isR.map (fun i => V[i]?) = wr.map some) (hnR : va_nd isR = true) (hdis : ∀ i ∈ isR, i ∉ is)
    (hn : As.length = n) (hsize : ls.size = nL) (hst : st0 = As.reverse ++ rest) (hW : (rest.map fun v => v.category).sum ≤ 8) (hdg : decode cc pc = .ok (.invokestatic index, 3)) (hf : cells + mc ≤ R.cells ∧ slots + ms ≤ R.slots)
    (kk : ∀ (u : S) (H1 : Heap) (locs1 : List Loc), post u → va_P D vwCl (wr ++ W1 u) H1 → va_D A (wr ++ W1 u) → va_S A s.heap H1 locs1 → W p l e R s m args below meth c H1 locs1 (cells + mc) (slots + ms) Q (F0 m (pc + 3) ls (.int r :: rest))) : W p l e R s m args below meth c H locs cells slots Q (F0 m pc ls st0) := by
  have hpre := tt_pre hK hP hD hS hA hJ hX is hni hC As
  have hF := va_free (wc := wc) hD hS hA is hC
  refine va_calli (va_runS S0 hM cw ⟨hpre.1, hpre.2⟩ rfl hn hsize hst (lv_room (ls := ls) (rest := st0) (pc := pc) (m := m) hW) hdg hf) hS (fun q _ h => hF q h) hF (fun r' u t H1 locs1 ht hvm hw hB hz1 hk1 hS => ?_)
  obtain ⟨hP1, hK1, hD1⟩ := hB
  obtain ⟨rfl, hw⟩ := hw
  rw [ht] at hP1
  obtain ⟨hP2, hD2⟩ := va_join hP hD is isR hC hR hnR hdis hk1 hF hP1 hD1
  exact kk u H1 locs1 hw hP2 hD2 hS
end MYTT
set_option maxHeartbeats 4000000 in
set_option maxRecDepth 100000 in
theorem c_J7_checkLength_df160 (l : Launch) (D : va_G) (y : Nat → ClassId) (sz : Nat) (x2 : Nat) (h2 : x2 < 2 ^ 31) : Met l yJ7_checkLength_df160 wsJ7_checkLength_df160 (rmx 0 0 0 0) (jrP D y [] sz [.int 0, .int (nI x2)]) (wQuv (S := Unit) D y (fun _ => True) (fun _ => []) [] sz) 0 0 (va_A [] sz) := by
  refine Met.ofW (cc := cJ7_checkLength_df160) (maxL := 2) (ret := none) (by decide) rfl ?_
  intro p e s mi args below meth c s₁ B hml hv
  obtain ⟨hav, hsz, hP, hK, hD0, hJ⟩ := hv
  have hx := B.exec
  have hb := B.bytes
  have hr := B.returns
  have hts := atoms_spec (ws := wsJ7_checkLength_df160) B.pre
  have hown : s.vm.findClass RJ7 = some mi.cls := findClass_of_methodNamed B.named
  have hlocks := B.notSynchronized
  subst hsz
  have hD := hD0.self (sz := s.heap.size)
  obtain ⟨A, hAe⟩ : ∃ A : Nat → Prop, va_A [] s.heap.size = A := ⟨_, rfl⟩
  rw [hAe] at hD
  rw [hAe] at hJ
  have hA : ∀ q, s.heap.size ≤ q → A q := fun q h => by rw [← hAe]; exact Or.inr h
  have hS : va_S A s.heap s.heap [] := va_S.rf
  refine W_q (R1 := (rmx 0 0 0 0)) rfl (fun Q0 hQ0 => ?_)
  refine W_entry hav (Nat.le_of_ble_eq_true rfl) (fun ls hl => ?_)
  have hl : lv_has ls 2 [(0, .int ((0 : Int32))), (1, .int (nI x2))] := hl
  refine lv_iload_n hx hb dJ7_checkLength_df160_0 rfl (lv_at hl 1 rfl) ?_
  refine lv_iload_n hx hb dJ7_checkLength_df160_1 rfl (lv_at hl 0 rfl) ?_
  refine lv_icmp_ge (tgt := 37) hx hb dJ7_checkLength_df160_2 (by decide) (fun _ => ?_) (fun h9 => absurd (ck_ge0 h2) h9)
  rw [hQ0]
  exact ret_uv (()) (trivial) hx hb hr hlocks hAe hK hP hD hS [] rfl rfl dJ7_checkLength_df160_37
set_option maxHeartbeats 4000000 in
set_option maxRecDepth 100000 in
theorem c_J7_copyOfRangeByte_39247 (l : Launch) (D : va_G) (y : Nat → ClassId) (sz : Nat) (v m n : Nat) (b : Nat → Int32) (h1 : n < m) (h2 : m ≤ 65536) (hfit : sb_Fit b) : Met l yJ7_copyOfRangeByte_39247 wsJ7_copyOfRangeByte_39247 (rmx 2 80 1 n) (jrP D y [(v, .inl (y 2, m, .inl (b)))] sz [.ref v, .int 0, .int (nI n)]) (wQur (S := Nat × (Nat → Int32)) D y (fun u => u.1) (fun u => ∀ j, j < n → u.2 j = b j) (fun u => [(v, .inl (y 2, m, .inl (b))), (u.1, .inl (y 2, n, .inl u.2))]) [(v, .inl (y 2, m, .inl (b)))] sz) 1 n (va_A [(v, .inl (y 2, m, .inl (b)))] sz) := by
  refine Met.ofW (cc := cJ7_copyOfRangeByte_39247) (maxL := 5) (ret := (some (.array .byte))) (by decide) rfl ?_
  intro p e s mi args below meth c s₁ B hml hv
  obtain ⟨hav, hsz, hP, hK, hD0, hJ⟩ := hv
  have hx := B.exec
  have hb := B.bytes
  have hr := B.returns
  have hts := atoms_spec (ws := wsJ7_copyOfRangeByte_39247) B.pre
  have hown : s.vm.findClass RJ7 = some mi.cls := findClass_of_methodNamed B.named
  have hlocks := B.notSynchronized
  subst hsz
  have hD := hD0.self (sz := s.heap.size)
  obtain ⟨A, hAe⟩ : ∃ A : Nat → Prop, va_A [(v, .inl (y 2, m, .inl (b)))] s.heap.size = A := ⟨_, rfl⟩
  rw [hAe] at hD
  rw [hAe] at hJ
  have hA : ∀ q, s.heap.size ≤ q → A q := fun q h => by rw [← hAe]; exact Or.inr h
  have hS : va_S A s.heap s.heap [] := va_S.rf
  refine W_q (R1 := (rmx 2 80 1 n)) rfl (fun Q0 hQ0 => ?_)
  refine W_entry hav (Nat.le_of_ble_eq_true rfl) (fun ls hl => ?_)
  have hl : lv_has ls 5 [(0, .ref v), (1, .int ((0 : Int32))), (2, .int (nI n))] := hl
  refine lv_iload_n hx hb dJ7_copyOfRangeByte_39247_0 rfl (lv_at hl 1 rfl) ?_
  refine lv_iload_n hx hb dJ7_copyOfRangeByte_39247_1 rfl (lv_at hl 2 rfl) ?_
  refine cj_Sv (As := [.int ((0 : Int32)), .int (nI n)]) (rest := []) (wr := [(v, .inl (y 2, m, .inl (b)))]) ⟨hx, hb, hml, hown, hts⟩ (c_J7_checkLength_df160 l D y s.heap.size n (by omega)) (va_cwS 2 hts gJ7_copyOfRangeByte_39247_J7_checkLength_df160 rfl rfl rfl (by decide +kernel) ⟨(Nat.le_of_ble_eq_true rfl), (Nat.le_of_ble_eq_true rfl)⟩) hK hP hD hS hA hJ [] [0] rfl rfl rfl rfl (by decide) rfl hl.1 rfl (Nat.le_of_ble_eq_true rfl) dJ7_copyOfRangeByte_39247_2 ⟨(Nat.le_of_ble_eq_true rfl), (Nat.le_of_ble_eq_true rfl)⟩ (fun u1 H locs hu1 hP hD hS => ?_)
  have hP : va_P D vwCl [(v, .inl (y 2, m, .inl (b)))] H := hP
  have hD : va_D A [(v, .inl (y 2, m, .inl (b)))] := hD
  refine lv_iload_n hx hb dJ7_copyOfRangeByte_39247_5 rfl (lv_at hl 2 rfl) ?_
  refine lv_iload_n hx hb dJ7_copyOfRangeByte_39247_6 rfl (lv_at hl 1 rfl) ?_
  refine lv_isub hx hb dJ7_copyOfRangeByte_39247_7 ?_
  refine s1_is (z := nI n) (Int32.sub_zero _) ?_
  refine lv_istore_n (lv' := [(3, .int (nI n)), (0, .ref v), (1, .int ((0 : Int32))), (2, .int (nI n))]) hx hb dJ7_copyOfRangeByte_39247_8 rfl hl (by decide) rfl (fun ls hl => ?_)
  refine lv_iload_n hx hb dJ7_copyOfRangeByte_39247_9 rfl (lv_at hl 0 rfl) ?_
  refine nw_a (atype := .byte) hx hb (hts (.arrayClass .byte) (List.mem_of_getElem? (i := 1) rfl)) rfl hK hP hD hS hA (a0 := (n, .inl (fun _ => 0))) (N' := n) (fun _ => rfl) (nI_pos (by omega)) (nI_clamp (by omega)) (by show n * 1 ≤ _; omega) (Nat.le_refl 1) (Nat.le_of_eq (Nat.zero_add n)) dJ7_copyOfRangeByte_39247_10 2 rfl (fun w H hP hD hS => ?_)
  have hP : va_P D vwCl [(v, .inl (y 2, m, .inl (b))), (w, .inl (y 2, n, .inl (fun _ => 0)))] H := hP
  have hD : va_D A [(v, .inl (y 2, m, .inl (b))), (w, .inl (y 2, n, .inl (fun _ => 0)))] := hD
  refine lv_astore (lv' := [(4, .ref w), (3, .int (nI n)), (0, .ref v), (1, .int ((0 : Int32))), (2, .int (nI n))]) hx hb dJ7_copyOfRangeByte_39247_12 hl (by decide) rfl (fun ls hl => ?_)
  refine lv_aload_n hx hb dJ7_copyOfRangeByte_39247_14 rfl (lv_at hl 2 rfl) ?_
  refine lv_iload_n hx hb dJ7_copyOfRangeByte_39247_15 rfl (lv_at hl 3 rfl) ?_
  refine lv_aload hx hb dJ7_copyOfRangeByte_39247_16 (lv_at hl 0 rfl) ?_
  refine lv_iconst (v := 0) hx hb dJ7_copyOfRangeByte_39247_18 (by decide) ?_
  refine lv_aload_n hx hb dJ7_copyOfRangeByte_39247_19 rfl (lv_at hl 2 rfl) ?_
  refine va_alen (v := nI (m)) hx hb hK hP 0 2 rfl rfl rfl dJ7_copyOfRangeByte_39247_20 ?_
  refine lv_iload_n hx hb dJ7_copyOfRangeByte_39247_21 rfl (lv_at hl 3 rfl) ?_
  refine lv_isub hx hb dJ7_copyOfRangeByte_39247_22 ?_
  refine s1_is (z := nI m) (Int32.sub_zero _) ?_
  refine lv_iload_n hx hb dJ7_copyOfRangeByte_39247_23 rfl (lv_at hl 1 rfl) ?_
  refine va_mmin hx hb (hml.trans hl.1.symm) hown (hts (.methodLink RJ7 304 Lib.Math.min.name) (List.mem_of_getElem? (i := 2) rfl)) (hts (.static Lib.Math.min.name) (List.mem_of_getElem? (i := 3) rfl)) (hts (.initialized "java/lang/Math") (List.mem_of_getElem? (i := 4) rfl)) (hts (.code Lib.Math.min.name Lib.Math.min.code 2 (some .int)) (List.mem_of_getElem? (i := 5) rfl)) (Nat.le_of_ble_eq_true rfl) (Nat.le_of_ble_eq_true rfl) (Nat.le_of_ble_eq_true rfl) (Nat.le_of_eq (Nat.zero_add n)) dJ7_copyOfRangeByte_39247_24 ?_
  refine s1_is (z := nI n) (mn_le (by omega) (by omega)) ?_
  refine va_copyi hx hb (hml.trans hl.1.symm) hown (hts (.methodLink RJ7 150 arraycopyName) (List.mem_of_getElem? (i := 6) rfl)) (hts (.native arraycopyName) (List.mem_of_getElem? (i := 7) rfl)) (hts (.static arraycopyName) (List.mem_of_getElem? (i := 8) rfl)) (hts (.initialized "java/lang/System") (List.mem_of_getElem? (i := 9) rfl)) hK hP hD hS 0 1 2 2 rfl rfl rfl rfl rfl (by decide) (by decide) (nI_pos (by omega)) (by rw [nI_clamp (by omega), sb_cl0]; omega) (by rw [nI_clamp (by omega), sb_cl0]; omega) (fun i _ => hfit _) (Nat.le_of_ble_eq_true rfl) (Nat.le_of_ble_eq_true rfl) dJ7_copyOfRangeByte_39247_27 (fun H locs hP hD hS => ?_)
  have hP : va_P D vwCl [(v, .inl (y 2, m, .inl (b))), (w, .inl (y 2, n, .inl (va_cpy b (fun _ => 0) (0 : Int32).toNatClampNeg (0 : Int32).toNatClampNeg (nI n).toNatClampNeg)))] H := hP
  have hD : va_D A [(v, .inl (y 2, m, .inl (b))), (w, .inl (y 2, n, .inl (va_cpy b (fun _ => 0) (0 : Int32).toNatClampNeg (0 : Int32).toNatClampNeg (nI n).toNatClampNeg)))] := hD
  have ec : va_cpy b (fun _ => 0) (0 : Int32).toNatClampNeg (0 : Int32).toNatClampNeg (nI n).toNatClampNeg = va_cpy b (fun _ => 0) 0 0 n := by rw [sb_cl0, nI_clamp (by omega)]
  rw [ec] at hP hD
  refine lv_aload hx hb dJ7_copyOfRangeByte_39247_30 (lv_at hl 0 rfl) ?_
  rw [hQ0]
  refine W.widen (k := 1) (n := n) (Nat.le_refl 1) (Nat.le_of_eq (Nat.zero_add n)) ?_
  exact ret_ur ((w, va_cpy b (fun _ => 0) 0 0 n)) (fun j hj => (sb_cpy0 hj : va_cpy b (fun _ => 0) 0 0 n j = b j)) hx hb hr (Or.inr ⟨_, rfl⟩) hlocks hAe hK hP hD hS [0, 1] rfl rfl dJ7_copyOfRangeByte_39247_32
set_option maxHeartbeats 4000000 in
set_option maxRecDepth 100000 in
theorem c_J7_copyOfRange_39247 (l : Launch) (D : va_G) (y : Nat → ClassId) (sz : Nat) (v m n : Nat) (b : Nat → Int32) (h1 : n < m) (h2 : m ≤ 65536) (hfit : sb_Fit b) : Met l yJ7_copyOfRange_39247 wsJ7_copyOfRange_39247 (rmx 3 110 1 n) (jrP D y [(v, .inl (y 2, m, .inl (b)))] sz [.ref v, .int 0, .int (nI n)]) (wQur (S := Nat × (Nat → Int32)) D y (fun u => u.1) (fun u => ∀ j, j < n → u.2 j = b j) (fun u => [(v, .inl (y 2, m, .inl (b))), (u.1, .inl (y 2, n, .inl u.2))]) [(v, .inl (y 2, m, .inl (b)))] sz) 1 n (va_A [(v, .inl (y 2, m, .inl (b)))] sz) := by
  refine Met.ofW (cc := cJ7_copyOfRange_39247) (maxL := 3) (ret := (some (.array .byte))) (by decide) rfl ?_
  intro p e s mi args below meth c s₁ B hml hv
  obtain ⟨hav, hsz, hP, hK, hD0, hJ⟩ := hv
  have hx := B.exec
  have hb := B.bytes
  have hr := B.returns
  have hts := atoms_spec (ws := wsJ7_copyOfRange_39247) B.pre
  have hown : s.vm.findClass RJ7 = some mi.cls := findClass_of_methodNamed B.named
  have hlocks := B.notSynchronized
  subst hsz
  have hD := hD0.self (sz := s.heap.size)
  obtain ⟨A, hAe⟩ : ∃ A : Nat → Prop, va_A [(v, .inl (y 2, m, .inl (b)))] s.heap.size = A := ⟨_, rfl⟩
  rw [hAe] at hD
  rw [hAe] at hJ
  have hA : ∀ q, s.heap.size ≤ q → A q := fun q h => by rw [← hAe]; exact Or.inr h
  have hS : va_S A s.heap s.heap [] := va_S.rf
  refine W_q (R1 := (rmx 3 110 1 n)) rfl (fun Q0 hQ0 => ?_)
  refine W_entry hav (Nat.le_of_ble_eq_true rfl) (fun ls hl => ?_)
  have hl : lv_has ls 3 [(0, .ref v), (1, .int ((0 : Int32))), (2, .int (nI n))] := hl
  refine lv_iload_n hx hb dJ7_copyOfRange_39247_0 rfl (lv_at hl 1 rfl) ?_
  refine lv_if_ne (tgt := 10) hx hb dJ7_copyOfRange_39247_1 (by decide) (fun h9 => absurd (rfl) h9) (fun _ => ?_)
  refine lv_iload_n hx hb dJ7_copyOfRange_39247_4 rfl (lv_at hl 2 rfl) ?_
  refine lv_aload_n hx hb dJ7_copyOfRange_39247_5 rfl (lv_at hl 0 rfl) ?_
  refine va_alen (v := nI (m)) hx hb hK hP 0 2 rfl rfl rfl dJ7_copyOfRange_39247_6 ?_
  refine lv_icmp_eq (tgt := 17) hx hb dJ7_copyOfRange_39247_7 (by decide) (fun h9 => absurd h9 (nI_ne (by omega) (by omega) (by omega))) (fun _ => ?_)
  refine lv_aload_n hx hb dJ7_copyOfRange_39247_10 rfl (lv_at hl 0 rfl) ?_
  refine lv_iload_n hx hb dJ7_copyOfRange_39247_11 rfl (lv_at hl 1 rfl) ?_
  refine lv_iload_n hx hb dJ7_copyOfRange_39247_12 rfl (lv_at hl 2 rfl) ?_
  refine cj_Sr (As := [.ref v, .int ((0 : Int32)), .int (nI n)]) (rest := []) (wr := []) ⟨hx, hb, hml, hown, hts⟩ (c_J7_copyOfRangeByte_39247 l D y s.heap.size v m n b h1 h2 hfit) (va_cwS 3 hts gJ7_copyOfRange_39247_J7_copyOfRangeByte_39247 rfl rfl rfl (by decide +kernel) ⟨(Nat.le_of_ble_eq_true rfl), (Nat.le_of_ble_eq_true rfl)⟩) hK hP hD hS hA hJ [0] [] rfl rfl rfl rfl (by decide) rfl hl.1 rfl (Nat.le_of_ble_eq_true rfl) dJ7_copyOfRange_39247_13 ⟨Nat.le_refl 1, Nat.le_of_eq (Nat.zero_add n)⟩ (fun u H locs hu hP hD hS => ?_)
  have hP : va_P D vwCl [(v, .inl (y 2, m, .inl (b))), (u.1, .inl (y 2, n, .inl u.2))] H := hP
  have hD : va_D A [(v, .inl (y 2, m, .inl (b))), (u.1, .inl (y 2, n, .inl u.2))] := hD
  rw [hQ0]
  refine W.widen (k := 1) (n := n) (Nat.le_refl 1) (Nat.le_of_eq (Nat.zero_add n)) ?_
  exact ret_ur (u) (hu) hx hb hr (Or.inr ⟨_, rfl⟩) hlocks hAe hK hP hD hS [0, 1] rfl rfl dJ7_copyOfRange_39247_16
theorem iJ5_getValue_6d5f1_J4 : ∀ w ∈ u_ws RJ4 TJ4 4, w ∈ wsJ5_getValue_6d5f1 := fun w h => List.mem_cons_of_mem _ (List.mem_append_right _ h)
set_option maxHeartbeats 4000000 in
set_option maxRecDepth 100000 in
theorem c_J5_getValue_6d5f1 (l : Launch) (D : va_G) (y : Nat → ClassId) (sz : Nat) (a v n : Nat) (ml : Int32) : Met l yJ5_getValue_6d5f1 wsJ5_getValue_6d5f1 (rmx 0 0 0 0) (jrP D y [(a, .inr (1, [.ref v, .int 0, .int ml, .int (nI n)]))] sz [.ref a]) (wQur (S := Unit) D y (fun _ => v) (fun _ => True) (fun _ => [(a, .inr (1, [.ref v, .int 0, .int ml, .int (nI n)]))]) [(a, .inr (1, [.ref v, .int 0, .int ml, .int (nI n)]))] sz) 0 0 (va_A [(a, .inr (1, [.ref v, .int 0, .int ml, .int (nI n)]))] sz) := by
  refine Met.ofW (cc := cJ5_getValue_6d5f1) (maxL := 1) (ret := (some (.array .byte))) (by decide) rfl ?_
  intro p e s mi args below meth c s₁ B hml hv
  obtain ⟨hav, hsz, hP, hK, hD0, hJ⟩ := hv
  have hx := B.exec
  have hb := B.bytes
  have hr := B.returns
  have hts := atoms_spec (ws := wsJ5_getValue_6d5f1) B.pre
  have hown : s.vm.findClass RJ5 = some mi.cls := findClass_of_methodNamed B.named
  have hlocks := B.notSynchronized
  subst hsz
  have hD := hD0.self (sz := s.heap.size)
  obtain ⟨A, hAe⟩ : ∃ A : Nat → Prop, va_A [(a, .inr (1, [.ref v, .int 0, .int ml, .int (nI n)]))] s.heap.size = A := ⟨_, rfl⟩
  rw [hAe] at hD
  rw [hAe] at hJ
  have hA : ∀ q, s.heap.size ≤ q → A q := fun q h => by rw [← hAe]; exact Or.inr h
  have hS : va_S A s.heap s.heap [] := va_S.rf
  refine W_q (R1 := (rmx 0 0 0 0)) rfl (fun Q0 hQ0 => ?_)
  refine W_entry hav (Nat.le_of_ble_eq_true rfl) (fun ls hl => ?_)
  have hl : lv_has ls 1 [(0, .ref a)] := hl
  refine lv_aload_n hx hb dJ5_getValue_6d5f1_0 rfl (lv_at hl 0 rfl) ?_
  refine va_get (D := D) (ci := 1) (v := .ref v) (C := RJ4) (T := TJ4) (N := 4) hx hb hts iJ5_getValue_6d5f1_J4 hown hK hP 0 rfl rfl 0 (by decide) (hts (.fieldLink RJ5 15 "java/lang/AbstractStringBuilder" "value" "[B") (List.mem_of_getElem? (i := 1) rfl)) (fun _ h9 => h9) rfl dJ5_getValue_6d5f1_1 ?_
  rw [hQ0]
  exact ret_ur (()) (trivial) hx hb hr (Or.inr ⟨_, rfl⟩) hlocks hAe hK hP hD hS [0] rfl rfl dJ5_getValue_6d5f1_4
theorem iJ0_init_db425_J0 : ∀ w ∈ u_ws RJ0 TJ0 4, w ∈ wsJ0_init_db425 := fun w h => List.mem_cons_of_mem _ (List.mem_append_left _ (List.mem_append_right _ h))
set_option maxHeartbeats 4000000 in
set_option maxRecDepth 100000 in
theorem c_J0_init_db425 (l : Launch) (D : va_G) (y : Nat → ClassId) (sz : Nat) (sa a v n m : Nat) (ml : Int32) (b : Nat → Int32) (h1 : n < m) (h2 : m ≤ 65536) (hfit : sb_Fit b) : Met l yJ0_init_db425 wsJ0_init_db425 (rmx 4 180 1 n) (jrP D y [(a, .inr (1, [.ref v, .int 0, .int ml, .int (nI n)])), (v, .inl (y 2, m, .inl (b))), (sa, .inr (0, [.null, .int 0, .int 0, .int 0]))] sz [.ref sa, .ref a, .null]) (wQuv (S := Nat × (Nat → Int32)) D y (fun u => ∀ j, j < n → u.2 j = b j) (fun u => [(a, .inr (1, [.ref v, .int 0, .int ml, .int (nI n)])), (v, .inl (y 2, m, .inl (b))), (sa, .inr (0, [.ref u.1, .int 0, .int 0, .int 0])), (u.1, .inl (y 2, n, .inl u.2))]) [(a, .inr (1, [.ref v, .int 0, .int ml, .int (nI n)])), (v, .inl (y 2, m, .inl (b))), (sa, .inr (0, [.null, .int 0, .int 0, .int 0]))] sz) 1 n (va_A [(a, .inr (1, [.ref v, .int 0, .int ml, .int (nI n)])), (v, .inl (y 2, m, .inl (b))), (sa, .inr (0, [.null, .int 0, .int 0, .int 0]))] sz) := by
  refine Met.ofW (cc := cJ0_init_db425) (maxL := 5) (ret := none) (by decide) rfl ?_
  intro p e s mi args below meth c s₁ B hml hv
  obtain ⟨hav, hsz, hP, hK, hD0, hJ⟩ := hv
  have hx := B.exec
  have hb := B.bytes
  have hr := B.returns
  have hts := atoms_spec (ws := wsJ0_init_db425) B.pre
  have hown : s.vm.findClass RJ0 = some mi.cls := findClass_of_methodNamed B.named
  have hlocks := B.notSynchronized
  subst hsz
  have hD := hD0.self (sz := s.heap.size)
  obtain ⟨A, hAe⟩ : ∃ A : Nat → Prop, va_A [(a, .inr (1, [.ref v, .int 0, .int ml, .int (nI n)])), (v, .inl (y 2, m, .inl (b))), (sa, .inr (0, [.null, .int 0, .int 0, .int 0]))] s.heap.size = A := ⟨_, rfl⟩
  rw [hAe] at hD
  rw [hAe] at hJ
  have hA : ∀ q, s.heap.size ≤ q → A q := fun q h => by rw [← hAe]; exact Or.inr h
  have hS : va_S A s.heap s.heap [] := va_S.rf
  have hin : meth.name = "<init>" := (name_of_methodNamed B.named B.method).1
  refine W_q (R1 := (rmx 4 180 1 n)) rfl (fun Q0 hQ0 => ?_)
  refine W_entry hav (Nat.le_of_ble_eq_true rfl) (fun ls hl => ?_)
  have hl : lv_has ls 5 [(0, .ref sa), (1, .ref a), (2, .null)] := hl
  refine lv_aload_n hx hb dJ0_init_db425_0 rfl (lv_at hl 0 rfl) ?_
  refine W.objInit hx hb hown (hts (.methodLink RJ0 1 objectInit) (List.mem_of_getElem? (i := 1) rfl)) (hts (.instanceMethod objectInit) (List.mem_of_getElem? (i := 2) rfl)) (hts (.code objectInit ⟨#[0xb1]⟩ 1 none) (List.mem_of_getElem? (i := 3) rfl)) rfl (by rw [hml]; exact hl.1) rfl dJ0_init_db425_1 (Nat.le_of_ble_eq_true rfl) (Nat.le_of_ble_eq_true rfl) ?_
  refine W.eq (g2 := F0 mi 4 ls []) rfl ?_
  refine lv_aload_n hx hb dJ0_init_db425_4 rfl (lv_at hl 1 rfl) ?_
  refine cj_Ur (As := []) (rest := []) (wr := [(v, .inl (y 2, m, .inl (b))), (sa, .inr (0, [.null, .int 0, .int 0, .int 0]))]) ⟨hx, hb, hml, hown, hts⟩ (c_J5_getValue_6d5f1 l D y s.heap.size a v n ml) (va_cwU 0 hts gJ0_init_db425_J5_getValue_6d5f1_u552J4 rfl rfl rfl rfl (by decide +kernel) ⟨(Nat.le_of_ble_eq_true rfl), (Nat.le_of_ble_eq_true rfl)⟩) hK hP hD hS hA hJ [0] [1, 2] rfl rfl rfl rfl (by decide) rfl rfl rfl hl.1 rfl (Nat.le_of_ble_eq_true rfl) dJ0_init_db425_5 ⟨(Nat.le_of_ble_eq_true rfl), (Nat.le_of_ble_eq_true rfl)⟩ (fun u1 H locs hu1 hP hD hS => ?_)
  have hP : va_P D vwCl [(v, .inl (y 2, m, .inl (b))), (sa, .inr (0, [.null, .int 0, .int 0, .int 0])), (a, .inr (1, [.ref v, .int 0, .int ml, .int (nI n)]))] H := hP
  have hD : va_D A [(v, .inl (y 2, m, .inl (b))), (sa, .inr (0, [.null, .int 0, .int 0, .int 0])), (a, .inr (1, [.ref v, .int 0, .int ml, .int (nI n)]))] := hD
  refine lv_astore_n (lv' := [(3, .ref v), (0, .ref sa), (1, .ref a), (2, .null)]) hx hb dJ0_init_db425_8 rfl hl (by decide) rfl (fun ls hl => ?_)
  refine lv_aload_n hx hb dJ0_init_db425_9 rfl (lv_at hl 2 rfl) ?_
  refine cr_U (As := []) (rest := []) ⟨hx, hb, hml, hown, hts⟩ (c_J4_length_8abf5 l D y a v ml (nI n)) (va_cwO 0 hts gJ0_init_db425_J4_length_8abf5_u549J4 rfl rfl rfl (b0 := cJ5_length_8abf5) (m0 := 1) (r0 := some .int) (List.mem_of_getElem? (i := 25) rfl) (by decide +kernel) ⟨(Nat.le_of_ble_eq_true rfl), (Nat.le_of_ble_eq_true rfl)⟩) hK hP [2] rfl rfl rfl rfl hl.1 rfl (Nat.le_of_ble_eq_true rfl) dJ0_init_db425_10 ⟨(Nat.le_of_ble_eq_true rfl), (Nat.le_of_ble_eq_true rfl)⟩ ?_
  refine lv_istore (lv' := [(4, .int (nI n)), (3, .ref v), (0, .ref sa), (1, .ref a), (2, .null)]) hx hb dJ0_init_db425_13 hl (by decide) rfl (fun ls hl => ?_)
  refine lv_aload_n hx hb dJ0_init_db425_15 rfl (lv_at hl 3 rfl) ?_
  refine cj_Ui (As := []) (rest := []) (wr := [(v, .inl (y 2, m, .inl (b))), (sa, .inr (0, [.null, .int 0, .int 0, .int 0]))]) ⟨hx, hb, hml, hown, hts⟩ (c_J5_isLatin1_aae02 l D y H.size a v n ml) (va_cwU 0 hts gJ0_init_db425_J5_isLatin1_aae02_u1047J4 rfl rfl rfl rfl (by decide +kernel) ⟨(Nat.le_of_ble_eq_true rfl), (Nat.le_of_ble_eq_true rfl)⟩) hK hP hD hS hA hJ [2] [0, 1] rfl rfl rfl rfl (by decide) rfl rfl rfl hl.1 rfl (Nat.le_of_ble_eq_true rfl) dJ0_init_db425_16 ⟨(Nat.le_of_ble_eq_true rfl), (Nat.le_of_ble_eq_true rfl)⟩ (fun u2 H locs hu2 hP hD hS => ?_)
  have hP : va_P D vwCl [(v, .inl (y 2, m, .inl (b))), (sa, .inr (0, [.null, .int 0, .int 0, .int 0])), (a, .inr (1, [.ref v, .int 0, .int ml, .int (nI n)]))] H := hP
  have hD : va_D A [(v, .inl (y 2, m, .inl (b))), (sa, .inr (0, [.null, .int 0, .int 0, .int 0])), (a, .inr (1, [.ref v, .int 0, .int ml, .int (nI n)]))] := hD
  refine lv_if_eq (tgt := 41) hx hb dJ0_init_db425_19 (by decide) (fun h9 => absurd h9 (by decide)) (fun _ => ?_)
  refine lv_aload_n hx hb dJ0_init_db425_22 rfl (lv_at hl 2 rfl) ?_
  refine lv_iconst (v := 0) hx hb dJ0_init_db425_23 (by decide) ?_
  refine va_putF (D := D) (ci := 0) (v := .int ((0 : Int32))) (ty := .byte) (C := RJ0) (T := TJ0) (N := 4) hx hb hts iJ0_init_db425_J0 tyJ0 tyJ0_ok nmJ0 hown hK hP hD hS 1 rfl rfl 1 (by decide) (hts (.fieldLink RJ0 15 "java/lang/String" "coder" "B") (List.mem_of_getElem? (i := 4) rfl)) (fun _ h9 => h9) rfl hin rfl (by decide +kernel) (by decide +kernel) (by decide +kernel) (Nat.le_of_ble_eq_true rfl) dJ0_init_db425_24 (fun H locs hP hD hS => ?_)
  have hP : va_P D vwCl [(v, .inl (y 2, m, .inl (b))), (sa, .inr (0, [.null, .int 0, .int 0, .int 0])), (a, .inr (1, [.ref v, .int 0, .int ml, .int (nI n)]))] H := hP
  have hD : va_D A [(v, .inl (y 2, m, .inl (b))), (sa, .inr (0, [.null, .int 0, .int 0, .int 0])), (a, .inr (1, [.ref v, .int 0, .int ml, .int (nI n)]))] := hD
  refine lv_aload_n hx hb dJ0_init_db425_27 rfl (lv_at hl 2 rfl) ?_
  refine lv_aload_n hx hb dJ0_init_db425_28 rfl (lv_at hl 1 rfl) ?_
  refine lv_iconst (v := 0) hx hb dJ0_init_db425_29 (by decide) ?_
  refine lv_iload hx hb dJ0_init_db425_30 (lv_at hl 0 rfl) ?_
  refine cj_Sr (As := [.ref v, .int ((0 : Int32)), .int (nI n)]) (rest := [.ref sa]) (wr := [(sa, .inr (0, [.null, .int 0, .int 0, .int 0])), (a, .inr (1, [.ref v, .int 0, .int ml, .int (nI n)]))]) ⟨hx, hb, hml, hown, hts⟩ (c_J7_copyOfRange_39247 l D y H.size v m n b h1 h2 hfit) (va_cwS 3 hts gJ0_init_db425_J7_copyOfRange_39247 rfl rfl rfl (by decide +kernel) ⟨(Nat.le_of_ble_eq_true rfl), (Nat.le_of_ble_eq_true rfl)⟩) hK hP hD hS hA hJ [0] [1, 2] rfl rfl rfl rfl (by decide) rfl hl.1 rfl (Nat.le_of_ble_eq_true rfl) dJ0_init_db425_32 ⟨Nat.le_refl 1, Nat.le_of_eq (Nat.zero_add n)⟩ (fun u H locs hu hP hD hS => ?_)
  have hP : va_P D vwCl [(sa, .inr (0, [.null, .int 0, .int 0, .int 0])), (a, .inr (1, [.ref v, .int 0, .int ml, .int (nI n)])), (v, .inl (y 2, m, .inl (b))), (u.1, .inl (y 2, n, .inl u.2))] H := hP
  have hD : va_D A [(sa, .inr (0, [.null, .int 0, .int 0, .int 0])), (a, .inr (1, [.ref v, .int 0, .int ml, .int (nI n)])), (v, .inl (y 2, m, .inl (b))), (u.1, .inl (y 2, n, .inl u.2))] := hD
  refine va_putF (D := D) (ci := 0) (v := .ref u.1) (ty := .array .byte) (C := RJ0) (T := TJ0) (N := 4) hx hb hts iJ0_init_db425_J0 tyJ0 tyJ0_ok nmJ0 hown hK hP hD hS 0 rfl rfl 0 (by decide) (hts (.fieldLink RJ0 9 "java/lang/String" "value" "[B") (List.mem_of_getElem? (i := 5) rfl)) (fun _ h9 => h9) rfl hin rfl (by decide +kernel) rfl rfl (Nat.le_of_ble_eq_true rfl) dJ0_init_db425_35 (fun H locs hP hD hS => ?_)
  have hP : va_P D vwCl [(sa, .inr (0, [.ref u.1, .int 0, .int 0, .int 0])), (a, .inr (1, [.ref v, .int 0, .int ml, .int (nI n)])), (v, .inl (y 2, m, .inl (b))), (u.1, .inl (y 2, n, .inl u.2))] H := hP
  have hD : va_D A [(sa, .inr (0, [.ref u.1, .int 0, .int 0, .int 0])), (a, .inr (1, [.ref v, .int 0, .int ml, .int (nI n)])), (v, .inl (y 2, m, .inl (b))), (u.1, .inl (y 2, n, .inl u.2))] := hD
  refine lv_goto (tgt := 97) hx hb dJ0_init_db425_38 (by decide) ?_
  rw [hQ0]
  refine W.widen (k := 1) (n := n) (Nat.le_refl 1) (Nat.le_of_eq (Nat.zero_add n)) ?_
  exact ret_uv (u) (hu) hx hb hr hlocks hAe hK hP hD hS [1, 2, 0, 3] rfl rfl dJ0_init_db425_97
set_option maxHeartbeats 4000000 in
set_option maxRecDepth 100000 in
theorem c_J0_init_81219 (l : Launch) (D : va_G) (y : Nat → ClassId) (sz : Nat) (sa a v n m : Nat) (ml : Int32) (b : Nat → Int32) (h1 : n < m) (h2 : m ≤ 65536) (hfit : sb_Fit b) : Met l yJ0_init_81219 wsJ0_init_81219 (rmx 5 220 1 n) (jrP D y [(a, .inr (1, [.ref v, .int 0, .int ml, .int (nI n)])), (v, .inl (y 2, m, .inl (b))), (sa, .inr (0, [.null, .int 0, .int 0, .int 0]))] sz [.ref sa, .ref a]) (wQuv (S := Nat × (Nat → Int32)) D y (fun u => ∀ j, j < n → u.2 j = b j) (fun u => [(a, .inr (1, [.ref v, .int 0, .int ml, .int (nI n)])), (v, .inl (y 2, m, .inl (b))), (sa, .inr (0, [.ref u.1, .int 0, .int 0, .int 0])), (u.1, .inl (y 2, n, .inl u.2))]) [(a, .inr (1, [.ref v, .int 0, .int ml, .int (nI n)])), (v, .inl (y 2, m, .inl (b))), (sa, .inr (0, [.null, .int 0, .int 0, .int 0]))] sz) 1 n (va_A [(a, .inr (1, [.ref v, .int 0, .int ml, .int (nI n)])), (v, .inl (y 2, m, .inl (b))), (sa, .inr (0, [.null, .int 0, .int 0, .int 0]))] sz) := by
  refine Met.ofW (cc := cJ0_init_81219) (maxL := 2) (ret := none) (by decide) rfl ?_
  intro p e s mi args below meth c s₁ B hml hv
  obtain ⟨hav, hsz, hP, hK, hD0, hJ⟩ := hv
  have hx := B.exec
  have hb := B.bytes
  have hr := B.returns
  have hts := atoms_spec (ws := wsJ0_init_81219) B.pre
  have hown : s.vm.findClass RJ0 = some mi.cls := findClass_of_methodNamed B.named
  have hlocks := B.notSynchronized
  subst hsz
  have hD := hD0.self (sz := s.heap.size)
  obtain ⟨A, hAe⟩ : ∃ A : Nat → Prop, va_A [(a, .inr (1, [.ref v, .int 0, .int ml, .int (nI n)])), (v, .inl (y 2, m, .inl (b))), (sa, .inr (0, [.null, .int 0, .int 0, .int 0]))] s.heap.size = A := ⟨_, rfl⟩
  rw [hAe] at hD
  rw [hAe] at hJ
  have hA : ∀ q, s.heap.size ≤ q → A q := fun q h => by rw [← hAe]; exact Or.inr h
  have hS : va_S A s.heap s.heap [] := va_S.rf
  refine W_q (R1 := (rmx 5 220 1 n)) rfl (fun Q0 hQ0 => ?_)
  refine W_entry hav (Nat.le_of_ble_eq_true rfl) (fun ls hl => ?_)
  have hl : lv_has ls 2 [(0, .ref sa), (1, .ref a)] := hl
  refine lv_aload_n hx hb dJ0_init_81219_0 rfl (lv_at hl 0 rfl) ?_
  refine lv_aload_n hx hb dJ0_init_81219_1 rfl (lv_at hl 1 rfl) ?_
  refine lv_null hx hb dJ0_init_81219_2 ?_
  refine ck_I (As := [.ref a, .null]) (rest := []) (wr := []) ⟨hx, hb, hml, hown, hts⟩ (c_J0_init_db425 l D y s.heap.size sa a v n m ml b h1 h2 hfit) (cwI 2 hts gJ0_init_81219_J0_init_db425 rfl rfl rfl (hts (.initialized RJ0) (List.mem_of_getElem? (i := 3) rfl)) (hts (.methodLink RJ0 489 yJ0_init_db425) (List.mem_of_getElem? (i := 1) rfl)) (hts (.instanceMethod yJ0_init_db425) (List.mem_of_getElem? (i := 2) rfl)) rfl (by decide +kernel) ⟨(Nat.le_of_ble_eq_true rfl), (Nat.le_of_ble_eq_true rfl)⟩) hK hP hD hS hA hJ [0, 1, 2] [] rfl rfl rfl rfl (by decide) rfl hl.1 rfl (Nat.le_of_ble_eq_true rfl) dJ0_init_81219_3 ⟨Nat.le_refl 1, Nat.le_of_eq (Nat.zero_add n)⟩ (fun u H locs hu hP hD hS => ?_)
  have hP : va_P D vwCl [(a, .inr (1, [.ref v, .int 0, .int ml, .int (nI n)])), (v, .inl (y 2, m, .inl (b))), (sa, .inr (0, [.ref u.1, .int 0, .int 0, .int 0])), (u.1, .inl (y 2, n, .inl u.2))] H := hP
  have hD : va_D A [(a, .inr (1, [.ref v, .int 0, .int ml, .int (nI n)])), (v, .inl (y 2, m, .inl (b))), (sa, .inr (0, [.ref u.1, .int 0, .int 0, .int 0])), (u.1, .inl (y 2, n, .inl u.2))] := hD
  rw [hQ0]
  refine W.widen (k := 1) (n := n) (Nat.le_refl 1) (Nat.le_of_eq (Nat.zero_add n)) ?_
  exact ret_uv (u) (hu) hx hb hr hlocks hAe hK hP hD hS [0, 1, 2, 3] rfl rfl dJ0_init_81219_6
theorem iJ4_toString_0e30d_J0 : ∀ w ∈ u_ws RJ0 TJ0 4, w ∈ wsJ4_toString_0e30d := fun w h => List.mem_cons_of_mem _ (List.mem_append_left _ (List.mem_append_right _ h))
set_option maxHeartbeats 4000000 in
set_option maxRecDepth 100000 in
theorem c_J4_toString_0e30d (l : Launch) (D : va_G) (y : Nat → ClassId) (sz : Nat) (a v n m : Nat) (ml : Int32) (b : Nat → Int32) (h1 : n < m) (h2 : m ≤ 65536) (hfit : sb_Fit b) : Met l yJ4_toString_0e30d wsJ4_toString_0e30d (rmx 6 260 2 (n + 4)) (jrP D y [(a, .inr (1, [.ref v, .int 0, .int ml, .int (nI n)])), (v, .inl (y 2, m, .inl (b)))] sz [.ref a]) (wQur (S := Nat × Nat × (Nat → Int32)) D y (fun u => u.1) (fun u => ∀ j, j < n → u.2.2 j = b j) (fun u => [(a, .inr (1, [.ref v, .int 0, .int ml, .int (nI n)])), (v, .inl (y 2, m, .inl (b))), (u.1, .inr (0, [.ref u.2.1, .int 0, .int 0, .int 0])), (u.2.1, .inl (y 2, n, .inl u.2.2))]) [(a, .inr (1, [.ref v, .int 0, .int ml, .int (nI n)])), (v, .inl (y 2, m, .inl (b)))] sz) 2 (n + 4) (va_A [(a, .inr (1, [.ref v, .int 0, .int ml, .int (nI n)])), (v, .inl (y 2, m, .inl (b)))] sz) := by
  refine Met.ofW (cc := cJ4_toString_0e30d) (maxL := 1) (ret := (some (.object "java/lang/String"))) (by decide) rfl ?_
  intro p e s mi args below meth c s₁ B hml hv
  obtain ⟨hav, hsz, hP, hK, hD0, hJ⟩ := hv
  have hx := B.exec
  have hb := B.bytes
  have hr := B.returns
  have hts := atoms_spec (ws := wsJ4_toString_0e30d) B.pre
  have hown : s.vm.findClass RJ4 = some mi.cls := findClass_of_methodNamed B.named
  have hlocks := B.notSynchronized
  subst hsz
  have hD := hD0.self (sz := s.heap.size)
  obtain ⟨A, hAe⟩ : ∃ A : Nat → Prop, va_A [(a, .inr (1, [.ref v, .int 0, .int ml, .int (nI n)])), (v, .inl (y 2, m, .inl (b)))] s.heap.size = A := ⟨_, rfl⟩
  rw [hAe] at hD
  rw [hAe] at hJ
  have hA : ∀ q, s.heap.size ≤ q → A q := fun q h => by rw [← hAe]; exact Or.inr h
  have hS : va_S A s.heap s.heap [] := va_S.rf
  refine W_q (R1 := (rmx 6 260 2 (n + 4))) rfl (fun Q0 hQ0 => ?_)
  refine W_entry hav (Nat.le_of_ble_eq_true rfl) (fun ls hl => ?_)
  have hl : lv_has ls 1 [(0, .ref a)] := hl
  refine va_new (ci := 0) (fs := [.null, .int 0, .int 0, .int 0]) (C := RJ0) (T := TJ0) (N := 4) hx hb hts iJ4_toString_0e30d_J0 tyJ0 tyJ0_ok hown (hts (.classLink RJ4 18 RJ0) (List.mem_of_getElem? (i := 1) rfl)) (hts (.instantiable RJ0 4) (List.mem_of_getElem? (i := 2) rfl)) (hts (.initialized RJ0) (List.mem_of_getElem? (i := 3) rfl)) hK hP hD hS hA rfl (fun j hj => by rcases (show j = 0 ∨ j = 1 ∨ j = 2 ∨ j = 3 by omega) with rfl | rfl | rfl | rfl <;> rfl) (Nat.le_of_ble_eq_true rfl) (by show 0 + 4 ≤ n + 4; omega) dJ4_toString_0e30d_0 (fun sa H hP hD hS => ?_)
  have hP : va_P D vwCl [(a, .inr (1, [.ref v, .int 0, .int ml, .int (nI n)])), (v, .inl (y 2, m, .inl (b))), (sa, .inr (0, [.null, .int 0, .int 0, .int 0]))] H := hP
  have hD : va_D A [(a, .inr (1, [.ref v, .int 0, .int ml, .int (nI n)])), (v, .inl (y 2, m, .inl (b))), (sa, .inr (0, [.null, .int 0, .int 0, .int 0]))] := hD
  refine lv_dup hx hb dJ4_toString_0e30d_3 rfl ?_
  refine lv_aload_n hx hb dJ4_toString_0e30d_4 rfl (lv_at hl 0 rfl) ?_
  refine ck_I (As := [.ref a]) (rest := [.ref sa]) (wr := []) ⟨hx, hb, hml, hown, hts⟩ (c_J0_init_81219 l D y H.size sa a v n m ml b h1 h2 hfit) (cwI 1 hts gJ4_toString_0e30d_J0_init_81219 rfl rfl rfl (hts (.initialized RJ0) (List.mem_of_getElem? (i := 3) rfl)) (hts (.methodLink RJ4 137 yJ0_init_81219) (List.mem_of_getElem? (i := 4) rfl)) (hts (.instanceMethod yJ0_init_81219) (List.mem_of_getElem? (i := 5) rfl)) rfl (by decide +kernel) ⟨(Nat.le_of_ble_eq_true rfl), (Nat.le_of_ble_eq_true rfl)⟩) hK hP hD hS hA hJ [0, 1, 2] [] rfl rfl rfl rfl (by decide) rfl hl.1 rfl (Nat.le_of_ble_eq_true rfl) dJ4_toString_0e30d_5 ⟨(Nat.le_of_ble_eq_true rfl), by show 0 + 4 + n ≤ n + 4; omega⟩ (fun u H locs hu hP hD hS => ?_)
  have hP : va_P D vwCl [(a, .inr (1, [.ref v, .int 0, .int ml, .int (nI n)])), (v, .inl (y 2, m, .inl (b))), (sa, .inr (0, [.ref u.1, .int 0, .int 0, .int 0])), (u.1, .inl (y 2, n, .inl u.2))] H := hP
  have hD : va_D A [(a, .inr (1, [.ref v, .int 0, .int ml, .int (nI n)])), (v, .inl (y 2, m, .inl (b))), (sa, .inr (0, [.ref u.1, .int 0, .int 0, .int 0])), (u.1, .inl (y 2, n, .inl u.2))] := hD
  rw [hQ0]
  refine W.widen (k := 2) (n := n + 4) (Nat.le_of_ble_eq_true rfl) (by show 0 + 4 + n ≤ n + 4; omega) ?_
  exact ret_ur ((sa, u.1, u.2)) (hu) hx hb hr (Or.inl ⟨_, rfl⟩) hlocks hAe hK hP hD hS [0, 1, 2, 3] rfl rfl dJ4_toString_0e30d_8
set_option maxHeartbeats 4000000 in
set_option maxRecDepth 100000 in
theorem c_J1_charAt_3b067 (l : Launch) (D : va_G) (y : Nat → ClassId) (sz : Nat) (tv sn : Nat) (tt : Nat → Nat) (i : Nat) (hi : i < sn) (hB : tt i < 256) (hsn : sn < 2 ^ 31) : Met l yJ1_charAt_3b067 wsJ1_charAt_3b067 (rmx 3 100 0 0) (tP D y [] sz [.ref tv, .int (nI i)] tv sn tt) (wQui (S := Unit) D y (nI (tt i)) (fun _ => True) (fun _ => []) [] sz) 0 0 (va_A [] sz) := by
  refine Met.ofW (cc := cJ1_charAt_3b067) (maxL := 2) (ret := (some .char)) (by decide) rfl ?_
  intro p e s mi args below meth c s₁ B hml hv
  obtain ⟨hav, hsz, hP, hK, hD0, hJ, hT0⟩ := hv
  have hx := B.exec
  have hb := B.bytes
  have hr := B.returns
  have hts := atoms_spec (ws := wsJ1_charAt_3b067) B.pre
  have hown : s.vm.findClass RJ1 = some mi.cls := findClass_of_methodNamed B.named
  have hlocks := B.notSynchronized
  subst hsz
  have hD := hD0.self (sz := s.heap.size)
  obtain ⟨A, hAe⟩ : ∃ A : Nat → Prop, va_A [] s.heap.size = A := ⟨_, rfl⟩
  rw [hAe] at hD
  rw [hAe] at hJ
  rw [hAe] at hT0
  have hA : ∀ q, s.heap.size ≤ q → A q := fun q h => by rw [← hAe]; exact Or.inr h
  have hS : va_S A s.heap s.heap [] := va_S.rf
  refine W_q (R1 := (rmx 3 100 0 0)) rfl (fun Q0 hQ0 => ?_)
  refine W_entry hav (Nat.le_of_ble_eq_true rfl) (fun ls hl => ?_)
  have hl : lv_has ls 2 [(0, .ref tv), (1, .int (nI i))] := hl
  refine lv_iload_n hx hb dJ1_charAt_3b067_0 rfl (lv_at hl 1 rfl) ?_
  refine lv_aload_n hx hb dJ1_charAt_3b067_1 rfl (lv_at hl 0 rfl) ?_
  refine va_tlen (v := nI sn) hx hb hT0 hS rfl dJ1_charAt_3b067_2 ?_
  refine cj_Sv (As := [.int (nI i), .int (nI sn)]) (rest := []) (wr := []) ⟨hx, hb, hml, hown, hts⟩ (c_J0_checkIndex_df160 l D y s.heap.size i sn hi hsn) (va_cwS 2 hts gJ1_charAt_3b067_J0_checkIndex_df160 rfl rfl rfl (by decide +kernel) ⟨(Nat.le_of_ble_eq_true rfl), (Nat.le_of_ble_eq_true rfl)⟩) hK hP hD hS hA hJ [] [] rfl rfl rfl rfl (by decide) rfl hl.1 rfl (Nat.le_of_ble_eq_true rfl) dJ1_charAt_3b067_3 ⟨(Nat.le_of_ble_eq_true rfl), (Nat.le_of_ble_eq_true rfl)⟩ (fun u1 H locs hu1 hP hD hS => ?_)
  have hP : va_P D vwCl [] H := hP
  have hD : va_D A [] := hD
  refine lv_aload_n hx hb dJ1_charAt_3b067_6 rfl (lv_at hl 0 rfl) ?_
  refine lv_iload_n hx hb dJ1_charAt_3b067_7 rfl (lv_at hl 1 rfl) ?_
  refine va_tb (v := .int (sb_b (tt i))) hx hb hT0 hS (vp_in_nI (n := i) (N := sn) hi hsn) (by show Value.int (sb_b (tt (nI i).toNatClampNeg)) = _; rw [nI_clamp (by omega)]) dJ1_charAt_3b067_8 ?_
  refine lv_sipush (v := 255) hx hb dJ1_charAt_3b067_9 (by decide) ?_
  refine lv_iand hx hb dJ1_charAt_3b067_12 ?_
  refine s1_is (z := nI (tt i)) ((sb_byte (tt i) hB).1) ?_
  refine lv_i2c hx hb dJ1_charAt_3b067_13 rfl ?_
  refine s1_is (z := nI (tt i)) ((sb_byte (tt i) hB).2.1) ?_
  rw [hQ0]
  exact ret_uz (()) (trivial) hx hb hr ((pk_charN (q := tt i) (by omega)).1) hlocks hAe hK hP hD hS [] rfl rfl dJ1_charAt_3b067_14
set_option maxHeartbeats 4000000 in
set_option maxRecDepth 100000 in
theorem c_J0_charAt_5068e (l : Launch) (D : va_G) (y : Nat → ClassId) (sz : Nat) (sa sn : Nat) (tt : Nat → Nat) (i : Nat) (hi : i < sn) (hsn : sn < 2 ^ 31) : Met l yJ0_charAt_5068e wsJ0_charAt_5068e (rmx 4 140 0 0) (sP D y [] sz [.ref sa, .int (nI i)] sa sn tt) (wQui (S := Unit) D y (nI (tt i)) (fun _ => True) (fun _ => []) [] sz) 0 0 (va_A [] sz) := by
  refine Met.ofW (cc := cJ0_charAt_5068e) (maxL := 2) (ret := (some .char)) (by decide) rfl ?_
  intro p e s mi args below meth c s₁ B hml hv
  obtain ⟨hav, hsz, hP, hK, hD0, hJ, hX⟩ := hv
  have hx := B.exec
  have hb := B.bytes
  have hr := B.returns
  have hts := atoms_spec (ws := wsJ0_charAt_5068e) B.pre
  have hown : s.vm.findClass RJ0 = some mi.cls := findClass_of_methodNamed B.named
  have hlocks := B.notSynchronized
  subst hsz
  have hD := hD0.self (sz := s.heap.size)
  obtain ⟨A, hAe⟩ : ∃ A : Nat → Prop, va_A [] s.heap.size = A := ⟨_, rfl⟩
  rw [hAe] at hD
  rw [hAe] at hJ
  rw [hAe] at hX
  have hA : ∀ q, s.heap.size ≤ q → A q := fun q h => by rw [← hAe]; exact Or.inr h
  have hS : va_S A s.heap s.heap [] := va_S.rf
  have hX0 := hX
  obtain ⟨t0, hO, hC0, hV0, hT0, hB0⟩ := hX0
  refine W_q (R1 := (rmx 4 140 0 0)) rfl (fun Q0 hQ0 => ?_)
  refine W_entry hav (Nat.le_of_ble_eq_true rfl) (fun ls hl => ?_)
  have hl : lv_has ls 2 [(0, .ref sa), (1, .int (nI i))] := hl
  refine lv_aload_n hx hb dJ0_charAt_5068e_0 rfl (lv_at hl 0 rfl) ?_
  refine ct_Vi (As := []) (rest := []) (wr := []) ⟨hx, hb, hml, hown, hts⟩ (c_J0_isLatin1_aae02 l D y s.heap.size sa sn tt) (cwV 0 hts gJ0_charAt_5068e_J0_isLatin1_aae02 rfl rfl rfl (by decide +kernel) ⟨(Nat.le_of_ble_eq_true rfl), (Nat.le_of_ble_eq_true rfl)⟩) hK hP hD hS hA hJ hX [] [] rfl rfl rfl rfl (by decide) rfl hl.1 rfl (Nat.le_of_ble_eq_true rfl) dJ0_charAt_5068e_1 ⟨(Nat.le_of_ble_eq_true rfl), (Nat.le_of_ble_eq_true rfl)⟩ (fun u1 H locs hu1 hP hD hS => ?_)
  have hP : va_P D vwCl [] H := hP
  have hD : va_D A [] := hD
  refine lv_if_eq (tgt := 16) hx hb dJ0_charAt_5068e_4 (by decide) (fun h9 => absurd h9 (by decide)) (fun _ => ?_)
  refine lv_aload_n hx hb dJ0_charAt_5068e_7 rfl (lv_at hl 0 rfl) ?_
  refine vk_getf hx hb hV0 hS hown (hts (.fieldLink RJ0 9 "java/lang/String" "value" "[B") (List.mem_of_getElem? (i := 1) rfl)) (fun _ h9 => h9) dJ0_charAt_5068e_8 ?_
  refine lv_iload_n hx hb dJ0_charAt_5068e_11 rfl (lv_at hl 1 rfl) ?_
  refine tt_Si (As := [.ref t0, .int (nI i)]) (rest := []) (wr := []) ⟨hx, hb, hml, hown, hts⟩ (c_J1_charAt_3b067 l D y H.size t0 sn tt i hi (hB0 i hi) hsn) (va_cwS 2 hts gJ0_charAt_5068e_J1_charAt_3b067 rfl rfl rfl (by decide +kernel) ⟨(Nat.le_of_ble_eq_true rfl), (Nat.le_of_ble_eq_true rfl)⟩) hK hP hD hS hA hJ hT0 [] [] rfl rfl rfl rfl (by decide) rfl hl.1 rfl (Nat.le_of_ble_eq_true rfl) dJ0_charAt_5068e_12 ⟨(Nat.le_of_ble_eq_true rfl), (Nat.le_of_ble_eq_true rfl)⟩ (fun u2 H locs hu2 hP hD hS => ?_)
  have hP : va_P D vwCl [] H := hP
  have hD : va_D A [] := hD
  rw [hQ0]
  exact ret_uz (()) (trivial) hx hb hr ((pk_charN (q := tt i) (by have := hB0 i hi; omega)).1) hlocks hAe hK hP hD hS [] rfl rfl dJ0_charAt_5068e_15
