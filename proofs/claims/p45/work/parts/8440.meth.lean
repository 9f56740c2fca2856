/-! the script: at -/
def xP (bs L : Nat) (xs : Nat → Int32) (av : List Value) : Array Value → State → Prop := va_Pc av (fun U => va_X bs L xs U U.heap ∧ bs < U.heap.size)
theorem xP_blind {bs L : Nat} {xs : Nat → Int32} {av : List Value} : FrameBlind (xP bs L xs av) := fun a U g mk q => ⟨q.1, va_X.moved (u := U) (U := U.calling g mk a) (Vm.Alike.refl U.vm) q.2.1, q.2.2⟩
def atN (L : Nat) (xs : Nat → Int32) (k : Nat) : Int32 := if k < L then xs k else 0
section OAT
variable {p : Program} {l : Launch} {e : Env} {R : Room} {s : State} {m : MethodId} {args : Array Value} {below : List Frame} {meth : Method} {c : Code} {H : Heap} {locs : List Loc} {cells slots : Nat} {Q : State → Prop}
variable {y : MethodName} {bytes cc : ByteArray} {maxL nL n index : Nat} {ret : Option FieldType} {wsy : List Cond} {rm : Room} {Ts : List Cond} {own : String} {As rest st0 : List Value} {pc : Nat} {ls : Array Slot} {A : Nat → Prop} {r : Int32} {bs L : Nat} {xs : Nat → Int32}
theorem ox_S (S : CallFix p m c cc nL s args Ts own) (hM : Met l y wsy rm (xP bs L xs As) (QcRead r) 0 0 (fun _ => False)) (cw : CallB R s args own index y bytes maxL ret wsy rm 0 0 n ∧ (Cond.static y).before args s = true) (hX : va_X bs L xs s s.heap) (hbl : bs < s.heap.size) (hbA : ¬ A bs) (hS : va_S A s.heap H locs)
    (hn : As.length = n) (hsize : ls.size = nL) (hst : st0 = As.reverse ++ rest) (hW : (rest.map fun v => v.category).sum ≤ 8) (hdg : decode cc pc = .ok (.invokestatic index, 3)) (hf : cells + 0 ≤ R.cells ∧ slots + 0 ≤ R.slots)
    (kk : W p l e R s m args below meth c H locs cells slots Q (F0 m (pc + 3) ls (.int r :: rest))) : W p l e R s m args below meth c H locs cells slots Q (F0 m pc ls st0) :=
  W.callR (va_Run.run (va_runS S hM cw ⟨xP_blind, fun U hU hW => ⟨rfl, by rw [hU]; exact va_X.moved hW.alike (va_X.kept hX (hS.2.1 bs hbl hbA)), by rw [hU]; exact Nat.lt_of_lt_of_le hbl hS.1⟩⟩ rfl hn hsize hst (lv_room (ls := ls) (rest := st0) (pc := pc) (m := m) hW) hdg hf)) kk
end OAT
set_option maxHeartbeats 4000000 in
set_option maxRecDepth 100000 in
theorem o_at (l : Launch) (bs L : Nat) (xs : Nat → Int32) (hL : L < 2 ^ 31) (k : Nat) (hk : k < 2 ^ 31) : Met l yL_at wsL_at (rmq 0 0) (xP bs L xs [.ref bs, .int (nI k)]) (QcRead (atN L xs k)) 0 0 (fun _ => False) := by
  refine Met.ofW (cc := cL_at) (maxL := 2) (ret := (some .int)) (by decide) rfl ?_
  intro p e s mi args below meth c s₁ B hml hv
  obtain ⟨hav, hX, hbl⟩ := hv
  have hx := B.exec
  have hb := B.bytes
  have hr := B.returns
  have hS : va_S (fun _ => False) s.heap s.heap [] := va_S.rf
  have hbA : ¬ (fun _ : Nat => False) bs := fun h => h
  refine W_q (R1 := rmq 0 0) rfl (fun Q0 hQ0 => ?_)
  refine W_entry hav (Nat.le_of_ble_eq_true rfl) (fun ls hl => ?_)
  have hl : lv_has ls 2 [(0, .ref bs), (1, .int (nI k))] := hl
  refine lv_iload_n hx hb dL_at_0 rfl (lv_at hl 1 rfl) ?_
  refine lv_aload_n hx hb dL_at_1 rfl (lv_at hl 0 rfl) ?_
  refine va_slen hx hb hX hbl hbA hS dL_at_2 ?_
  by_cases c0 : k < L
  · refine lv_icmp_ge (tgt := 12) hx hb dL_at_3 (by decide) (fun h9 => absurd ((nI_leI (a := L) (b := k) hL hk).mp h9) (by omega)) (fun _ => ?_)
    refine lv_aload_n hx hb dL_at_6 rfl (lv_at hl 0 rfl) ?_
    refine lv_iload_n hx hb dL_at_7 rfl (lv_at hl 1 rfl) ?_
    refine va_sld hx hb hX hbl hbA hS (vp_in_nI (n := k) (N := L) c0 hL) dL_at_8 ?_
    refine lv_goto (tgt := 13) hx hb dL_at_9 (by decide) ?_
    rw [hQ0]
    refine s1_is (z := atN L xs k) (by unfold atN; rw [if_pos c0, nI_clamp hk]) ?_
    exact W.iret (v := atN L xs k) hx hb hr (fun t ht hW => ⟨rfl, ht⟩) (fun _ h => nomatch h) dL_at_13
  · refine lv_icmp_ge (tgt := 12) hx hb dL_at_3 (by decide) (fun _ => ?_) (fun h9 => absurd ((nI_leI (a := L) (b := k) hL hk).mpr (by omega)) h9)
    refine lv_iconst (v := 0) hx hb dL_at_12 (by decide) ?_
    rw [hQ0]
    refine s1_is (z := atN L xs k) (by unfold atN; rw [if_neg c0]) ?_
    exact W.iret (v := atN L xs k) hx hb hr (fun t ht hW => ⟨rfl, ht⟩) (fun _ h => nomatch h) dL_at_13
def isV (rs dt ix a b c : Int32) : Int32 := if lq_reason rs dt ix 0 = a ∧ lq_reason rs dt ix 1 = b ∧ lq_reason rs dt ix 2 = c then 1 else 0
def isRg (rs dt ix r : Int32) : Int32 := if r = -1001 ∧ isV rs dt ix 1 0 0 = 1 then 1 else 0
set_option maxHeartbeats 4000000 in
set_option maxRecDepth 100000 in
theorem oL_is (l : Launch) (hst : l.stackTraces = false) (D : va_G) (y : Nat → ClassId) (sz at_ : Nat) {q : Lad} {us : List Lad} {sv : Option Lad} {rs dt ix lf : Int32} {M : Nat} {tx : Nat → Int32} {NN : Nat} {TT : Nat → Nat} (V : va_W) (p1 p2 p3 : Int32) (hO : Ob y at_ q us sv rs dt ix lf M tx NN TT V) : Met l yL_is wsL_is (rmx 13 440 3 18) (zlP D y V sz [.ref at_, .int p1, .int p2, .int p3]) (oQi D y 0 (fun r V' => r = isV rs dt ix p1 p2 p3 ∧ Ob y at_ q us sv rs dt ix lf M tx NN TT V') V sz) 3 18 (va_A V sz) := by
  refine Met.ofW (cc := cL_is) (maxL := 4) (ret := (some .boolean)) (by decide) rfl ?_
  intro p e s mi args below meth c s₁ B hml hv
  obtain ⟨hav, hsz, hP, hK, hD0, hZ, hN, hJ⟩ := hv
  have hx := B.exec
  have hb := B.bytes
  have hr := B.returns
  have hts := atoms_spec (ws := wsL_is) B.pre
  have hown : s.vm.findClass RL = some mi.cls := findClass_of_methodNamed B.named
  have hlocks := B.notSynchronized
  subst hsz
  have hD := hD0.self (sz := s.heap.size)
  obtain ⟨A, hAe⟩ : ∃ A : Nat → Prop, va_A V s.heap.size = A := ⟨_, rfl⟩
  rw [hAe] at hD hZ hJ
  have hA : ∀ q, s.heap.size ≤ q → A q := fun q h => by rw [← hAe]; exact Or.inr h
  have hS : va_S A s.heap s.heap [] := va_S.rf
  have hP : va_P D vwCl (V ++ []) s.heap := by rw [List.append_nil]; exact hP
  have hD : va_D A (V ++ []) := by rw [List.append_nil]; exact hD
  refine W_q (R1 := (rmx 13 440 3 18)) rfl (fun Q0 hQ0 => ?_)
  refine W_entry hav (Nat.le_of_ble_eq_true rfl) (fun ls hl => ?_)
  have hl : lv_has ls 4 [(0, .ref at_), (1, .int (p1)), (2, .int (p2)), (3, .int (p3))] := hl
  refine lv_aload_n hx hb dL_is_0 rfl (lv_at hl 0 rfl) ?_
  refine lv_iconst (v := 0) hx hb dL_is_1 (by decide) ?_
  refine ow_Si (As := [.ref at_, .int ((0 : Int32))]) (rest := []) ⟨hx, hb, hml, hown, hts⟩ (oL_reason l hst D y s.heap.size at_ V 0 hO) (vx_cwSW 2 hts gL_is_L_reason rfl rfl rfl (by decide +kernel) ⟨(Nat.le_of_ble_eq_true rfl), (Nat.le_of_ble_eq_true rfl)⟩) hK hP hD hS hA hZ hN hJ rfl hl.1 rfl (Nat.le_of_ble_eq_true rfl) dL_is_2 ⟨by show 0 + 1 ≤ 3; omega, by show 0 + 6 ≤ 18; omega⟩ (fun r9 V H locs h9 hP hD hS => ?_)
  obtain ⟨rfl, hO⟩ := h9
  refine lv_iload_n hx hb dL_is_5 rfl (lv_at hl 1 rfl) ?_
  refine lv_icmp_ne (tgt := 31) hx hb dL_is_6 (by decide) (fun c1 => ?_) (fun c1 => ?_)
  · refine lv_iconst (v := 0) hx hb dL_is_31 (by decide) ?_
    rw [hQ0]
    refine W.widen (k := 3) (n := 18) (by omega) (by omega) ?_
    exact omret_z hx hb hr rfl hlocks hAe hK hP hD hS (⟨by unfold isV; rw [if_neg (fun z => c1 z.1)], hO⟩) dL_is_32
  · refine lv_aload_n hx hb dL_is_9 rfl (lv_at hl 0 rfl) ?_
    refine lv_iconst (v := 1) hx hb dL_is_10 (by decide) ?_
    refine ow_Si (As := [.ref at_, .int ((1 : Int32))]) (rest := []) ⟨hx, hb, hml, hown, hts⟩ (oL_reason l hst D y H.size at_ V 1 hO) (vx_cwSW 2 hts gL_is_L_reason rfl rfl rfl (by decide +kernel) ⟨(Nat.le_of_ble_eq_true rfl), (Nat.le_of_ble_eq_true rfl)⟩) hK hP hD hS hA hZ hN hJ rfl hl.1 rfl (Nat.le_of_ble_eq_true rfl) dL_is_11 ⟨by show 0 + 1 + 1 ≤ 3; omega, by show 0 + 6 + 6 ≤ 18; omega⟩ (fun r9 V H locs h9 hP hD hS => ?_)
    obtain ⟨rfl, hO⟩ := h9
    refine lv_iload_n hx hb dL_is_14 rfl (lv_at hl 2 rfl) ?_
    refine lv_icmp_ne (tgt := 31) hx hb dL_is_15 (by decide) (fun c2 => ?_) (fun c2 => ?_)
    · refine lv_iconst (v := 0) hx hb dL_is_31 (by decide) ?_
      rw [hQ0]
      refine W.widen (k := 3) (n := 18) (by omega) (by omega) ?_
      exact omret_z hx hb hr rfl hlocks hAe hK hP hD hS (⟨by unfold isV; rw [if_neg (fun z => c2 z.2.1)], hO⟩) dL_is_32
    · refine lv_aload_n hx hb dL_is_18 rfl (lv_at hl 0 rfl) ?_
      refine lv_iconst (v := 2) hx hb dL_is_19 (by decide) ?_
      refine ow_Si (As := [.ref at_, .int ((2 : Int32))]) (rest := []) ⟨hx, hb, hml, hown, hts⟩ (oL_reason l hst D y H.size at_ V 2 hO) (vx_cwSW 2 hts gL_is_L_reason rfl rfl rfl (by decide +kernel) ⟨(Nat.le_of_ble_eq_true rfl), (Nat.le_of_ble_eq_true rfl)⟩) hK hP hD hS hA hZ hN hJ rfl hl.1 rfl (Nat.le_of_ble_eq_true rfl) dL_is_20 ⟨by show 0 + 1 + 1 + 1 ≤ 3; omega, by show 0 + 6 + 6 + 6 ≤ 18; omega⟩ (fun r9 V H locs h9 hP hD hS => ?_)
      obtain ⟨rfl, hO⟩ := h9
      refine lv_iload_n hx hb dL_is_23 rfl (lv_at hl 3 rfl) ?_
      refine lv_icmp_ne (tgt := 31) hx hb dL_is_24 (by decide) (fun c3 => ?_) (fun c3 => ?_)
      · refine lv_iconst (v := 0) hx hb dL_is_31 (by decide) ?_
        rw [hQ0]
        refine W.widen (k := 3) (n := 18) (by omega) (by omega) ?_
        exact omret_z hx hb hr rfl hlocks hAe hK hP hD hS (⟨by unfold isV; rw [if_neg (fun z => c3 z.2.2)], hO⟩) dL_is_32
      · refine lv_iconst (v := 1) hx hb dL_is_27 (by decide) ?_
        refine lv_goto (tgt := 32) hx hb dL_is_28 (by decide) ?_
        rw [hQ0]
        refine W.widen (k := 3) (n := 18) (by omega) (by omega) ?_
        exact omret_z hx hb hr rfl hlocks hAe hK hP hD hS (⟨by unfold isV; rw [if_pos ⟨c1, c2, c3⟩], hO⟩) dL_is_32
theorem isV_1 {rs dt ix a b c : Int32} (h : ¬ isV rs dt ix a b c = 0) : isV rs dt ix a b c = 1 := by
  unfold isV at *
  by_cases z : lq_reason rs dt ix 0 = a ∧ lq_reason rs dt ix 1 = b ∧ lq_reason rs dt ix 2 = c
  · exact if_pos z
  · exact absurd (if_neg z) h
set_option maxHeartbeats 4000000 in
set_option maxRecDepth 100000 in
theorem oL_isRange (l : Launch) (hst : l.stackTraces = false) (D : va_G) (y : Nat → ClassId) (sz at_ : Nat) {q : Lad} {us : List Lad} {sv : Option Lad} {rs dt ix lf : Int32} {M : Nat} {tx : Nat → Int32} {NN : Nat} {TT : Nat → Nat} (V : va_W) (p1 : Int32) (hO : Ob y at_ q us sv rs dt ix lf M tx NN TT V) : Met l yL_isRange wsL_isRange (rmx 14 480 3 18) (zlP D y V sz [.ref at_, .int p1]) (oQi D y 0 (fun r V' => r = isRg rs dt ix p1 ∧ Ob y at_ q us sv rs dt ix lf M tx NN TT V') V sz) 3 18 (va_A V sz) := by
  refine Met.ofW (cc := cL_isRange) (maxL := 2) (ret := (some .boolean)) (by decide) rfl ?_
  intro p e s mi args below meth c s₁ B hml hv
  obtain ⟨hav, hsz, hP, hK, hD0, hZ, hN, hJ⟩ := hv
  have hx := B.exec
  have hb := B.bytes
  have hr := B.returns
  have hts := atoms_spec (ws := wsL_isRange) B.pre
  have hown : s.vm.findClass RL = some mi.cls := findClass_of_methodNamed B.named
  have hlocks := B.notSynchronized
  subst hsz
  have hD := hD0.self (sz := s.heap.size)
  obtain ⟨A, hAe⟩ : ∃ A : Nat → Prop, va_A V s.heap.size = A := ⟨_, rfl⟩
  rw [hAe] at hD hZ hJ
  have hA : ∀ q, s.heap.size ≤ q → A q := fun q h => by rw [← hAe]; exact Or.inr h
  have hS : va_S A s.heap s.heap [] := va_S.rf
  have hP : va_P D vwCl (V ++ []) s.heap := by rw [List.append_nil]; exact hP
  have hD : va_D A (V ++ []) := by rw [List.append_nil]; exact hD
  refine W_q (R1 := (rmx 14 480 3 18)) rfl (fun Q0 hQ0 => ?_)
  refine W_entry hav (Nat.le_of_ble_eq_true rfl) (fun ls hl => ?_)
  have hl : lv_has ls 2 [(0, .ref at_), (1, .int (p1))] := hl
  refine lv_iload_n hx hb dL_isRange_0 rfl (lv_at hl 1 rfl) ?_
  refine lv_sipush (v := -1001) hx hb dL_isRange_1 (by decide) ?_
  refine lv_icmp_ne (tgt := 21) hx hb dL_isRange_4 (by decide) (fun c1 => ?_) (fun c1 => ?_)
  · refine lv_iconst (v := 0) hx hb dL_isRange_21 (by decide) ?_
    rw [hQ0]
    refine W.widen (k := 3) (n := 18) (by omega) (by omega) ?_
    exact omret_z hx hb hr rfl hlocks hAe hK hP hD hS (⟨by unfold isRg; rw [if_neg (fun z => c1 z.1)], hO⟩) dL_isRange_22
  · refine lv_aload_n hx hb dL_isRange_7 rfl (lv_at hl 0 rfl) ?_
    refine lv_iconst (v := 1) hx hb dL_isRange_8 (by decide) ?_
    refine lv_iconst (v := 0) hx hb dL_isRange_9 (by decide) ?_
    refine lv_iconst (v := 0) hx hb dL_isRange_10 (by decide) ?_
    refine ow_Mi (As := [.ref at_, .int ((1 : Int32)), .int ((0 : Int32)), .int ((0 : Int32))]) (rest := []) ⟨hx, hb, hml, hown, hts⟩ (oL_is l hst D y s.heap.size at_ V 1 0 0 hO) (va_cwS 4 hts gL_isRange_L_is rfl rfl rfl (by decide +kernel) ⟨(Nat.le_of_ble_eq_true rfl), (Nat.le_of_ble_eq_true rfl)⟩) hK hP hD hS hA hZ hN hJ rfl hl.1 rfl (Nat.le_of_ble_eq_true rfl) dL_isRange_11 ⟨by show 0 + 3 ≤ 3; omega, by show 0 + 18 ≤ 18; omega⟩ (fun r9 V H locs h9 hP hD hS => ?_)
    obtain ⟨rfl, hO⟩ := h9
    refine lv_if_eq (tgt := 21) hx hb dL_isRange_14 (by decide) (fun c2 => ?_) (fun c2 => ?_)
    · refine lv_iconst (v := 0) hx hb dL_isRange_21 (by decide) ?_
      rw [hQ0]
      refine W.widen (k := 3) (n := 18) (by omega) (by omega) ?_
      exact omret_z hx hb hr rfl hlocks hAe hK hP hD hS (⟨by unfold isRg; rw [if_neg (fun z => absurd (c2.symm.trans z.2) (by decide))], hO⟩) dL_isRange_22
    · refine lv_iconst (v := 1) hx hb dL_isRange_17 (by decide) ?_
      refine lv_goto (tgt := 22) hx hb dL_isRange_18 (by decide) ?_
      rw [hQ0]
      refine W.widen (k := 3) (n := 18) (by omega) (by omega) ?_
      exact omret_z hx hb hr rfl hlocks hAe hK hP hD hS (⟨by unfold isRg; rw [if_pos ⟨c1, isV_1 c2⟩], hO⟩) dL_isRange_22
/-! reads: a given String goes to the reader, sign by sign, and its commands are carried out -/
def rdX (tt : Nat → Nat) (tx : Nat → Int32) : Nat → Nat → Int32
  | 0 => tx
  | j + 1 => upd (rdX tt tx j) j (vp_nar .char (nI (tt j)))
def rlP (D : va_G) (y : Nat → ClassId) (ws : va_W) (sz : Nat) (av : List Value) (a ln : Nat) (t : Nat → Nat) : Array Value → State → Prop := va_Pc av (fun U => U.heap.size = sz ∧ va_P D vwCl ws U.heap ∧ va_K D vwCl (tyl y) U ∧ va_D (fun _ => True) ws ∧ thrZ (va_A ws sz) U U.heap ∧ ncP U ∧ jdZ (va_A ws sz) U U.heap ∧ strC a ln t (va_A ws sz) U U.heap)
theorem rlP_blind {D : va_G} {y : Nat → ClassId} {ws : va_W} {sz : Nat} {av : List Value} {a ln : Nat} {t : Nat → Nat} : FrameBlind (rlP D y ws sz av a ln t) := fun a U g mk q => ⟨q.1, q.2.1, q.2.2.1, va_K.moved (u := U) (U := U.calling g mk a) (Vm.Alike.refl U.vm) q.2.2.2.1, q.2.2.2.2.1, thrZ.moved (u := U) (U := U.calling g mk a) (Vm.Alike.refl U.vm) q.2.2.2.2.2.1, ncP.moved (u := U) (U := U.calling g mk a) (Vm.Alike.refl U.vm) q.2.2.2.2.2.2.1, jdZ.moved (u := U) (U := U.calling g mk a) (Vm.Alike.refl U.vm) q.2.2.2.2.2.2.2.1, strC.moved (u := U) (U := U.calling g mk a) (Vm.Alike.refl U.vm) q.2.2.2.2.2.2.2.2⟩
section ORD
variable {p : Program} {l : Launch} {e : Env} {R : Room} {s : State} {m : MethodId} {args : Array Value} {below : List Frame} {meth : Method} {c : Code} {H : Heap} {locs : List Loc} {cells slots : Nat} {Q : State → Prop}
variable {D : va_G} {yy : Nat → ClassId} {V E : va_W} {y : MethodName} {bytes cc : ByteArray} {maxL nL n index mc ms : Nat} {ret : Option FieldType} {wsy : List Cond} {rm : Room} {Ts : List Cond} {own : String} {As rest st0 : List Value} {pc : Nat} {ls : Array Slot} {A : Nat → Prop} {r : Int32} {post : Int32 → va_W → Prop} {sa sn : Nat} {tt : Nat → Nat}
/-- a given String's own question, beside any cells -/
theorem os_Vi (S0 : CallFix p m c cc nL s args Ts own) (hM : Met l y wsy rm (sP D yy [] H.size (.ref sa :: As) sa sn tt) (wQui (S := Unit) D yy r (fun _ => True) (fun _ => []) [] H.size) mc ms (va_A [] H.size)) (cw : CallW R s args own "java/lang/String" index y bytes maxL ret wsy rm mc ms n) (hK : va_K D vwCl (tyl yy) s) (hP : va_P D vwCl V H) (hD : va_D A V) (hS : va_S A s.heap H locs) (hA : ∀ q, s.heap.size ≤ q → A q) (hJ : jdZ A s s.heap) (hX : strC sa sn tt A s s.heap)
    (hn : As.length = n) (hsize : ls.size = nL) (hst : st0 = As.reverse ++ .ref sa :: rest) (hW : (rest.map fun v => v.category).sum ≤ 8) (hdg : decode cc pc = .ok (.invokevirtual index, 3)) (hf : cells + mc ≤ R.cells ∧ slots + ms ≤ R.slots)
    (kk : ∀ (H1 : Heap) (locs1 : List Loc), va_P D vwCl V H1 → va_S A s.heap H1 locs1 → W p l e R s m args below meth c H1 locs1 (cells + mc) (slots + ms) Q (F0 m (pc + 3) ls (.int r :: rest))) : W p l e R s m args below meth c H locs cells slots Q (F0 m pc ls st0) := by
  have hpre := cs_pre (wc := []) hK hP hD hS hA hJ hX [] rfl rfl (.ref sa :: As)
  have hF := va_free (wc := []) hD hS hA [] rfl
  refine va_calli (va_runV S0 hM cw ⟨hpre.1, str_recv hX hS, hpre.2⟩ rfl hn hsize hst (lv_room (ls := ls) (rest := st0) (pc := pc) (m := m) hW) hdg hf) hS (fun q _ h => hF q h) hF (fun r' u t H1 locs1 ht hvm hw hB hz1 hk1 hS => ?_)
  obtain ⟨rfl, -⟩ := hw
  refine kk H1 locs1 (fun k q hq => ?_) hS
  have hl := (hP k q hq).lt
  refine (hP k q hq).kept (hk1 q.1 hl (fun z => ?_))
  rcases z with ⟨k2, e2, h2⟩ | h2
  · exact absurd h2 (by simp)
  · omega
theorem strC.any {B : Nat → Prop} (hX : strC sa sn tt A s s.heap) (hS : va_S A s.heap H locs) (hB : ∀ q, B q → A q) : ∀ U : State, s.WarmedH U.vm → strC sa sn tt B U H := fun U hW => ((hX.kept hS.2.1).narrow hB).moved hW.alike
/-- a static method of the law, that reads a String -/
theorem ow_Rd (S : CallFix p m c cc nL s args Ts own) (hM : Met l y wsy rm (rlP D yy V H.size As sa sn tt) (oQi D yy 0 post V H.size) mc ms (va_A V H.size)) (cw : CallB R s args own index y bytes maxL ret wsy rm mc ms n ∧ (Cond.static y).before args s = true) (hK : va_K D vwCl (tyl yy) s) (hP : va_P D vwCl (V ++ E) H) (hD : va_D A (V ++ E)) (hS : va_S A s.heap H locs) (hA : ∀ q, s.heap.size ≤ q → A q) (hZ : thrZ A s s.heap) (hN : ncP s) (hJ : jdZ A s s.heap) (hX : ∀ U : State, s.WarmedH U.vm → strC sa sn tt (va_A V H.size) U H)
    (hn : As.length = n) (hsize : ls.size = nL) (hst : st0 = As.reverse ++ rest) (hW : (rest.map fun v => v.category).sum ≤ 8) (hdg : decode cc pc = .ok (.invokestatic index, 3)) (hf : cells + mc ≤ R.cells ∧ slots + ms ≤ R.slots)
    (kk : ∀ (r : Int32) (V1 : va_W) (H1 : Heap) (locs1 : List Loc), post r V1 → va_P D vwCl (V1 ++ E) H1 → va_D A (V1 ++ E) → va_S A s.heap H1 locs1 → W p l e R s m args below meth c H1 locs1 (cells + mc) (slots + ms) Q (F0 m (pc + 3) ls (.int r :: rest))) : W p l e R s m args below meth c H locs cells slots Q (F0 m pc ls st0) := by
  have hpre := oc_pre hK hP hD hS hA hZ hN hJ As
  have hF := oc_F hD hS hA
  refine va_calli (va_runS S hM cw ⟨rlP_blind, fun U hU hW => ?_⟩ rfl hn hsize hst (lv_room (ls := ls) (rest := st0) (pc := pc) (m := m) hW) hdg hf) hS (fun q _ h => hF q h) hF (fun v u t H1 locs1 ht hvm hk hB hz1 hk1 hS => ?_)
  · obtain ⟨h1, h2, h3, h4, h5, h6, h7, h8⟩ := hpre.2 U hU hW
    exact ⟨h1, h2, h3, h4, h5, h6, h7, h8, by rw [hU]; exact hX U hW⟩
  · obtain ⟨-, hp⟩ := hk
    obtain ⟨hP1, hK1, hD1⟩ := hB
    rw [ht] at hP1
    obtain ⟨hP2, hD2⟩ := oc_join hP hD hk1 hF hP1 hD1
    exact kk v u H1 locs1 hp hP2 hD2 hS
end ORD
/-- what reads answers, and leaves -/
def rdR (y : Nat → ClassId) (at_ : Nat) (q : Lad) (us : List Lad) (sv : Option Lad) (rs dt ix : Int32) (M : Nat) (tx : Nat → Int32) (NN : Nat) (TT : Nat → Nat) (r : Int32) (V' : va_W) : Prop := (∃ x, ps M tx 61 0 = some x ∧ r = -1001 ∧ Ob y at_ q us sv rs dt ix (nI x) 0 tx NN TT V') ∨ (ps M tx 61 0 = none ∧ ∃ v rs2 dt2 ix2, CTX q rs dt ix M tx v rs2 dt2 ix2 ∧ ((v = -1 ∧ r = -1002 ∧ Ob y at_ q us sv rs2 dt2 ix2 (-1) 0 tx NN TT V') ∨ (r = v ∧ 0 ≤ v ∧ ∃ q2, GL q2 ∧ Ob y at_ q2 (push q us) sv rs2 dt2 ix2 (-1) 0 tx NN TT V')))
set_option maxHeartbeats 4000000 in
set_option maxRecDepth 100000 in
theorem rd_L {p : Program} {l : Launch} {e : Env} {s : State} {mi : MethodId} {args : Array Value} {below : List Frame} {meth : Method} {c : Code} {D : va_G} {y : Nat → ClassId} {A : Nat → Prop} {Q : State → Prop} {at_ : Nat}{q : Lad} {us : List Lad} {sv : Option Lad} {rs dt ix lf : Int32} {tx : Nat → Int32} {NN : Nat} {TT : Nat → Nat} {sa sn : Nat} {tt : Nat → Nat} (hst : l.stackTraces = false) (C0 : mC p l c mi s args D y A cL_reads 3 wsL_reads) (hX : strC sa sn tt A s s.heap) (hsn : sn ≤ 60) (k : mW p l e (rmx 14 460 62 400) s mi args below meth c D y A at_ q us sv rs dt ix lf sn ((rdX tt tx sn)) ((fun N2 T2 => N2 = NN ∧ T2 = TT)) [] Q 3 35 [(0, .ref at_), (1, .ref sa)] (sn) (6 * sn)) : ∀ d j : Nat, j + d = sn → mW p l e (rmx 14 460 62 400) s mi args below meth c D y A at_ q us sv rs dt ix lf j ((rdX tt tx j)) ((fun N2 T2 => N2 = NN ∧ T2 = TT)) [] Q 3 2 [(0, .ref at_), (1, .ref sa), (2, .int (nI j))] (j) (6 * j) := by
  obtain ⟨hx, hb, hml, hown, hts, hK, hA, hZ, hN, hJ, -⟩ := C0
  intro d
  induction d with
  | zero =>
    intro j hj
    obtain rfl : j = sn := by omega
    intro C S hC hS9 V NN TT hPT hO H locs hP hD hS ls hl
    refine lv_iload_n hx hb dL_reads_2 rfl (lv_at hl 2 rfl) ?_
    refine lv_aload_n hx hb dL_reads_3 rfl (lv_at hl 1 rfl) ?_
    refine os_Vi (As := []) (rest := [.int (nI j)]) ⟨hx, hb, hml, hown, hts⟩ (c_J0_length_8abf5 l D y H.size sa j tt) (cwV 0 hts gL_reads_J0_length_8abf5 rfl rfl rfl (by decide +kernel) ⟨(Nat.le_of_ble_eq_true rfl), (Nat.le_of_ble_eq_true rfl)⟩) hK hP hD hS hA hJ hX rfl hl.1 rfl (Nat.le_of_ble_eq_true rfl) dL_reads_4 ⟨by show C + 0 ≤ 62; omega, by show S + 0 ≤ 400; omega⟩ (fun H locs hP hS => ?_)
    refine lv_icmp_ge (tgt := 35) hx hb dL_reads_7 (by decide) (fun _ => ?_) (fun h9 => absurd ((nI_leI (a := j) (b := j) (by omega) (by omega)).mpr (by omega)) h9)
    exact k _ _ (by omega) (by omega) _ _ _ (hPT) hO H locs hP hD hS ls (lv_sub hl [0, 1] rfl)
  | succ d ih =>
    intro j hj
    intro C S hC hS9 V NN TT hPT hO H locs hP hD hS ls hl
    refine lv_iload_n hx hb dL_reads_2 rfl (lv_at hl 2 rfl) ?_
    refine lv_aload_n hx hb dL_reads_3 rfl (lv_at hl 1 rfl) ?_
    refine os_Vi (As := []) (rest := [.int (nI j)]) ⟨hx, hb, hml, hown, hts⟩ (c_J0_length_8abf5 l D y H.size sa sn tt) (cwV 0 hts gL_reads_J0_length_8abf5 rfl rfl rfl (by decide +kernel) ⟨(Nat.le_of_ble_eq_true rfl), (Nat.le_of_ble_eq_true rfl)⟩) hK hP hD hS hA hJ hX rfl hl.1 rfl (Nat.le_of_ble_eq_true rfl) dL_reads_4 ⟨by show C + 0 ≤ 62; omega, by show S + 0 ≤ 400; omega⟩ (fun H locs hP hS => ?_)
    refine lv_icmp_ge (tgt := 35) hx hb dL_reads_7 (by decide) (fun h9 => absurd h9 (fun z => by have := (nI_leI (a := sn) (b := j) (by omega) (by omega)).mp z; omega)) (fun _ => ?_)
    refine lv_aload_n hx hb dL_reads_10 rfl (lv_at hl 0 rfl) ?_
    refine lv_aload_n hx hb dL_reads_11 rfl (lv_at hl 1 rfl) ?_
    refine lv_iload_n hx hb dL_reads_12 rfl (lv_at hl 2 rfl) ?_
    refine os_Vi (As := [.int (nI j)]) (rest := [.ref at_]) ⟨hx, hb, hml, hown, hts⟩ (c_J0_charAt_5068e l D y H.size sa sn tt j (by omega) (by omega)) (cwV 1 hts gL_reads_J0_charAt_5068e rfl rfl rfl (by decide +kernel) ⟨(Nat.le_of_ble_eq_true rfl), (Nat.le_of_ble_eq_true rfl)⟩) hK hP hD hS hA hJ hX rfl hl.1 rfl (Nat.le_of_ble_eq_true rfl) dL_reads_13 ⟨by show C + 0 + 0 ≤ 62; omega, by show S + 0 + 0 ≤ 400; omega⟩ (fun H locs hP hS => ?_)
    refine ow_Si (As := [.ref at_, .int (nI (tt j))]) (rest := []) ⟨hx, hb, hml, hown, hts⟩ (oL_append l hst D y H.size at_ V (nI (tt j)) hO (by omega)) (vx_cwSW 2 hts gL_reads_L_append rfl rfl rfl (by decide +kernel) ⟨(Nat.le_of_ble_eq_true rfl), (Nat.le_of_ble_eq_true rfl)⟩) hK hP hD hS hA hZ hN hJ rfl hl.1 rfl (Nat.le_of_ble_eq_true rfl) dL_reads_16 ⟨by show C + 0 + 0 + 1 ≤ 62; omega, by show S + 0 + 0 + 6 ≤ 400; omega⟩ (fun r9 V H locs h9 hP hD hS => ?_)
    obtain ⟨rfl, hO⟩ := h9
    refine lv_iload_n hx hb dL_reads_19 rfl (lv_at hl 2 rfl) ?_
    refine lv_iconst (v := 1) hx hb dL_reads_20 (by decide) ?_
    refine lv_iadd hx hb dL_reads_21 ?_
    refine s1_is (z := nI (j + 1)) (nI_1 j) ?_
    refine lv_icmp_eq (tgt := 29) hx hb dL_reads_22 (by decide) (fun _ => ?_) (fun h9 => absurd (rfl) h9)
    refine lv_iinc (v := nI (j + 1)) (lv' := [(2, .int (nI (j + 1))), (0, .ref at_), (1, .ref sa)]) hx hb dL_reads_29 hl (k := 2) rfl (nI_1 j) (by decide) rfl (fun ls hl => ?_)
    refine lv_goto (tgt := 2) hx hb dL_reads_32 (by decide) ?_
    exact (ih (j + 1) (by omega)) _ _ (by omega) (by omega) _ _ _ (hPT) hO H locs hP hD hS ls (lv_sub hl [1, 2, 0] rfl)
set_option maxHeartbeats 4000000 in
set_option maxRecDepth 100000 in
theorem rd_E {p : Program} {l : Launch} {e : Env} {s : State} {mi : MethodId} {args : Array Value} {below : List Frame} {meth : Method} {c : Code} {D : va_G} {y : Nat → ClassId} {A : Nat → Prop} {at_ : Nat}{q : Lad} {us : List Lad} {sv : Option Lad} {rs dt ix lf : Int32} {tx : Nat → Int32} {NN : Nat} {TT : Nat → Nat} {sa sn : Nat} {tt : Nat → Nat} {V0 : va_W} (hst : l.stackTraces = false) (C0 : mC p l c mi s args D y A cL_reads 3 wsL_reads) (hr : meth.sig.returnType = some .int) (hlocks : meth.locks = false) (hAe : va_A V0 s.heap.size = A) (hsn : sn ≤ 60) : mW p l e (rmx 14 460 62 400) s mi args below meth c D y A at_ q us sv rs dt ix lf sn ((rdX tt tx sn)) ((fun N2 T2 => N2 = NN ∧ T2 = TT)) [] (MQ below (oQi D y 0 (fun r V' => rdR y at_ q us sv rs dt ix sn (rdX tt tx sn) NN TT r V') V0 s.heap.size) args s 62 400 (va_A V0 s.heap.size)) 3 35 [(0, .ref at_), (1, .ref sa)] (sn) (6 * sn) := by
  obtain ⟨hx, hb, hml, hown, hts, hK, hA, hZ, hN, hJ, -⟩ := C0
  intro C S hC hS9 V NN TT hPT hO H locs hP hD hS ls hl
  obtain ⟨rfl, rfl⟩ := hPT
  refine lv_aload_n hx hb dL_reads_35 rfl (lv_at hl 0 rfl) ?_
  refine ow_Si (As := [.ref at_]) (rest := []) ⟨hx, hb, hml, hown, hts⟩ (oL_commands l hst D y H.size at_ V hO) (vx_cwSW 1 hts gL_reads_L_commands rfl rfl rfl (by decide +kernel) ⟨(Nat.le_of_ble_eq_true rfl), (Nat.le_of_ble_eq_true rfl)⟩) hK hP hD hS hA hZ hN hJ rfl hl.1 rfl (Nat.le_of_ble_eq_true rfl) dL_reads_36 ⟨by show C + 1 ≤ 62; omega, by show S + 6 ≤ 400; omega⟩ (fun r9 V H locs h9 hP hD hS => ?_)
  refine W.widen (k := 62) (n := 400) (by omega) (by omega) ?_
  exact omret_i hx hb hr hlocks hAe hK hP hD hS h9 dL_reads_39
set_option maxHeartbeats 4000000 in
set_option maxRecDepth 100000 in
theorem oL_reads (l : Launch) (hst : l.stackTraces = false) (D : va_G) (y : Nat → ClassId) (sz at_ : Nat) {q : Lad} {us : List Lad} {sv : Option Lad} {rs dt ix lf : Int32} {tx : Nat → Int32} {NN : Nat} {TT : Nat → Nat} (V : va_W) (sa sn : Nat) (tt : Nat → Nat) (hsn : sn ≤ 60) (hO : Ob y at_ q us sv rs dt ix lf 0 tx NN TT V) : Met l yL_reads wsL_reads (rmx 14 460 62 400) (rlP D y V sz [.ref at_, .ref sa] sa sn tt) (oQi D y 0 (fun r V' => rdR y at_ q us sv rs dt ix sn (rdX tt tx sn) NN TT r V') V sz) 62 400 (va_A V sz) := by
  refine Met.ofW (cc := cL_reads) (maxL := 3) (ret := (some .int)) (by decide) rfl ?_
  intro p e s mi args below meth c s₁ B hml hv
  obtain ⟨hav, hsz, hP, hK, hD0, hZ, hN, hJ, hX⟩ := hv
  have hx := B.exec
  have hb := B.bytes
  have hr := B.returns
  have hts := atoms_spec (ws := wsL_reads) B.pre
  have hown : s.vm.findClass RL = some mi.cls := findClass_of_methodNamed B.named
  have hlocks := B.notSynchronized
  subst hsz
  have hD := hD0.self (sz := s.heap.size)
  obtain ⟨A, hAe⟩ : ∃ A : Nat → Prop, va_A V s.heap.size = A := ⟨_, rfl⟩
  rw [hAe] at hD hZ hJ hX
  have hA : ∀ q, s.heap.size ≤ q → A q := fun q h => by rw [← hAe]; exact Or.inr h
  have hS : va_S A s.heap s.heap [] := va_S.rf
  have hP : va_P D vwCl (V ++ []) s.heap := by rw [List.append_nil]; exact hP
  have hD : va_D A (V ++ []) := by rw [List.append_nil]; exact hD
  have C0 : mC p l c mi s args D y A cL_reads 3 wsL_reads := ⟨hx, hb, hml, hown, hts, hK, hA, hZ, hN, hJ, hst⟩
  have kE := rd_E (p := p) (e := e) (below := below) (meth := meth) (V0 := V) (q := q) (us := us) (sv := sv) (rs := rs) (dt := dt) (ix := ix) (lf := lf) (tx := tx) (at_ := at_) (NN := NN) (TT := TT) (sa := sa) (sn := sn) (tt := tt) hst C0 hr hlocks hAe hsn
  have kL := rd_L hst C0 hX hsn kE sn 0 (Nat.zero_add sn)
  refine W_entry hav (Nat.le_of_ble_eq_true rfl) (fun ls hl => ?_)
  have hl : lv_has ls 3 [(0, .ref at_), (1, .ref sa)] := hl
  refine lv_iconst (v := 0) hx hb dL_reads_0 (by decide) ?_
  refine lv_istore_n (lv' := [(2, .int ((0 : Int32))), (0, .ref at_), (1, .ref sa)]) hx hb dL_reads_1 rfl hl (by decide) rfl (fun ls hl => ?_)
  exact kL 0 0 (Nat.zero_le _) (Nat.zero_le _) V NN TT ⟨rfl, rfl⟩ hO s.heap [] hP hD hS ls (lv_sub hl [1, 2, 0] rfl)
