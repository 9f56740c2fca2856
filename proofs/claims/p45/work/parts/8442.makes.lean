/-! makes: the script comes beside the archive -/
def ylP (D : va_G) (y : Nat → ClassId) (ws : va_W) (sz : Nat) (av : List Value) (bs L : Nat) (xs : Nat → Int32) : Array Value → State → Prop := va_Pc av (fun U => U.heap.size = sz ∧ va_P D vwCl ws U.heap ∧ va_K D vwCl (tyl y) U ∧ va_D (fun _ => True) ws ∧ thrZ (va_A ws sz) U U.heap ∧ ncP U ∧ jdZ (va_A ws sz) U U.heap ∧ va_X bs L xs U U.heap ∧ bs < U.heap.size ∧ ¬ va_A ws sz bs)
theorem ylP_blind {D : va_G} {y : Nat → ClassId} {ws : va_W} {sz : Nat} {av : List Value} {bs L : Nat} {xs : Nat → Int32} : FrameBlind (ylP D y ws sz av bs L xs) := fun a U g mk q => ⟨q.1, q.2.1, q.2.2.1, va_K.moved (u := U) (U := U.calling g mk a) (Vm.Alike.refl U.vm) q.2.2.2.1, q.2.2.2.2.1, thrZ.moved (u := U) (U := U.calling g mk a) (Vm.Alike.refl U.vm) q.2.2.2.2.2.1, ncP.moved (u := U) (U := U.calling g mk a) (Vm.Alike.refl U.vm) q.2.2.2.2.2.2.1, jdZ.moved (u := U) (U := U.calling g mk a) (Vm.Alike.refl U.vm) q.2.2.2.2.2.2.2.1, va_X.moved (u := U) (U := U.calling g mk a) (Vm.Alike.refl U.vm) q.2.2.2.2.2.2.2.2.1, q.2.2.2.2.2.2.2.2.2⟩
section OYL
variable {p : Program} {l : Launch} {e : Env} {R : Room} {s : State} {m : MethodId} {args : Array Value} {below : List Frame} {meth : Method} {c : Code} {H : Heap} {locs : List Loc} {cells slots : Nat} {Q : State → Prop}
variable {D : va_G} {yy : Nat → ClassId} {V E : va_W} {y : MethodName} {bytes cc : ByteArray} {maxL nL n index mc ms : Nat} {ret : Option FieldType} {wsy : List Cond} {rm : Room} {Ts : List Cond} {own : String} {As rest st0 : List Value} {pc : Nat} {ls : Array Slot} {A : Nat → Prop} {post : Int32 → va_W → Prop} {bs L : Nat} {xs : Nat → Int32}
theorem ow_Y (S : CallFix p m c cc nL s args Ts own) (hM : Met l y wsy rm (ylP D yy V H.size As bs L xs) (oQi D yy 0 post V H.size) mc ms (va_A V H.size)) (cw : CallB R s args own index y bytes maxL ret wsy rm mc ms n ∧ (Cond.static y).before args s = true) (hK : va_K D vwCl (tyl yy) s) (hP : va_P D vwCl (V ++ E) H) (hD : va_D A (V ++ E)) (hS : va_S A s.heap H locs) (hA : ∀ q, s.heap.size ≤ q → A q) (hZ : thrZ A s s.heap) (hN : ncP s) (hJ : jdZ A s s.heap) (hX : va_X bs L xs s s.heap) (hbl : bs < s.heap.size) (hbA : ¬ A bs)
    (hn : As.length = n) (hsize : ls.size = nL) (hst : st0 = As.reverse ++ rest) (hW : (rest.map fun v => v.category).sum ≤ 8) (hdg : decode cc pc = .ok (.invokestatic index, 3)) (hf : cells + mc ≤ R.cells ∧ slots + ms ≤ R.slots)
    (kk : ∀ (r : Int32) (V1 : va_W) (H1 : Heap) (locs1 : List Loc), post r V1 → va_P D vwCl (V1 ++ E) H1 → va_D A (V1 ++ E) → va_S A s.heap H1 locs1 → W p l e R s m args below meth c H1 locs1 (cells + mc) (slots + ms) Q (F0 m (pc + 3) ls (.int r :: rest))) : W p l e R s m args below meth c H locs cells slots Q (F0 m pc ls st0) := by
  have hpre := oc_pre hK hP hD hS hA hZ hN hJ As
  have hF := oc_F hD hS hA
  refine va_calli (va_runS S hM cw ⟨ylP_blind, fun U hU hW => ?_⟩ rfl hn hsize hst (lv_room (ls := ls) (rest := st0) (pc := pc) (m := m) hW) hdg hf) hS (fun q _ h => hF q h) hF (fun v u t H1 locs1 ht hvm hk hB hz1 hk1 hS => ?_)
  · obtain ⟨h1, h2, h3, h4, h5, h6, h7, h8⟩ := hpre.2 U hU hW
    exact ⟨h1, h2, h3, h4, h5, h6, h7, h8, by rw [hU]; exact va_X.moved hW.alike (va_X.kept hX (hS.2.1 bs hbl hbA)), by rw [hU]; exact Nat.lt_of_lt_of_le hbl hS.1, fun z => hbA (hF bs z)⟩
  · obtain ⟨-, hp⟩ := hk
    obtain ⟨hP1, hK1, hD1⟩ := hB
    rw [ht] at hP1
    obtain ⟨hP2, hD2⟩ := oc_join hP hD hk1 hF hP1 hD1
    exact kk v u H1 locs1 hp hP2 hD2 hS
end OYL
set_option maxHeartbeats 4000000 in
set_option maxRecDepth 100000 in
theorem mk_0 {p : Program} {l : Launch} {e : Env} {s : State} {mi : MethodId} {args : Array Value} {below : List Frame} {meth : Method} {c : Code} {D : va_G} {y : Nat → ClassId} {A : Nat → Prop} {Q : State → Prop} {at_ : Nat}{q : Lad} {us : List Lad} {sv : Option Lad} {rs dt ix lf : Int32} {M : Nat} {tx : Nat → Int32} {bs L : Nat} {xs : Nat → Int32} (hst : l.stackTraces = false) (C0 : mC p l c mi s args D y A cL_makes 7 wsL_makes) (hX : va_X bs L xs s s.heap) (hbl : bs < s.heap.size) (hbA : ¬ A bs) (hL : L < 2 ^ 31) (k0 : ∀ N, 6 ≤ N → N ≤ 15 → mW p l e (rmx 14 480 40 240) s mi args below meth c D y A at_ q us sv rs dt ix lf M tx (anyT) [] Q 7 16 [(0, .ref at_), (1, .ref bs), (2, .int (nI N)), (3, .int (nI 0))] (0) (0)) : mW p l e (rmx 14 480 40 240) s mi args below meth c D y A at_ q us sv rs dt ix lf M tx (anyT) [] Q 7 0 [(0, .ref at_), (1, .ref bs)] (0) (0) := by
  obtain ⟨hx, hb, hml, hown, hts, hK, hA, hZ, hN, hJ, -⟩ := C0
  intro C S hC hS9 V NN TT hPT hO H locs hP hD hS ls hl
  refine lv_bipush (v := 6) hx hb dL_makes_0 (by decide) ?_
  refine lv_aload_n hx hb dL_makes_2 rfl (lv_at hl 1 rfl) ?_
  refine lv_iconst (v := 0) hx hb dL_makes_3 (by decide) ?_
  refine s1_is (z := nI 0) (rfl) ?_
  refine ox_S (As := [.ref bs, .int (nI (0))]) (rest := [.int ((6 : Int32))]) ⟨hx, hb, hml, hown, hts⟩ (o_at l bs L xs hL (0) (by decide)) (va_cwS 2 hts gL_makes_L_at rfl rfl rfl (by decide +kernel) ⟨(Nat.le_of_ble_eq_true rfl), (Nat.le_of_ble_eq_true rfl)⟩) hX hbl hbA hS rfl hl.1 rfl (Nat.le_of_ble_eq_true rfl) dL_makes_4 ⟨by show C + 0 ≤ 40; omega, by show S + 0 ≤ 240; omega⟩ ?_
  refine lv_bipush (v := 10) hx hb dL_makes_7 (by decide) ?_
  refine ow_Mi (As := [.int ((atN L xs (0))), .int ((10 : Int32))]) (rest := [.int ((6 : Int32))]) ⟨hx, hb, hml, hown, hts⟩ (o_some l D y H.size ((atN L xs (0))) 10 (by decide) V) (va_cwS 2 hts gL_makes_L_some rfl rfl rfl (by decide +kernel) ⟨(Nat.le_of_ble_eq_true rfl), (Nat.le_of_ble_eq_true rfl)⟩) hK hP hD hS hA hZ hN hJ rfl hl.1 rfl (Nat.le_of_ble_eq_true rfl) dL_makes_9 ⟨by show C + 0 + 0 ≤ 40; omega, by show S + 0 + 0 ≤ 240; omega⟩ (fun r9 V H locs h9 hP hD hS => ?_)
  obtain ⟨rfl, hV9⟩ := h9; have hO := Ob_eq hV9 hO
  obtain ⟨k, hk, ek⟩ := sm_lt (v := (atN L xs (0))) (n := 10) (by decide) (by decide)
  refine s1_is (z := nI k) ek ?_
  refine lv_iadd hx hb dL_makes_12 ?_
  refine s1_is (z := nI (6 + k)) (nI_add 6 k) ?_
  refine lv_istore_n (lv' := [(2, .int (nI (6 + k))), (0, .ref at_), (1, .ref bs)]) hx hb dL_makes_13 rfl hl (by decide) rfl (fun ls hl => ?_)
  refine lv_iconst (v := 0) hx hb dL_makes_14 (by decide) ?_
  refine s1_is (z := nI 0) (rfl) ?_
  refine lv_istore_n (lv' := [(3, .int (nI 0)), (2, .int (nI (6 + k))), (0, .ref at_), (1, .ref bs)]) hx hb dL_makes_15 rfl hl (by decide) rfl (fun ls hl => ?_)
  exact (k0 (6 + k) (by omega) (by omega)) _ _ (by omega) (by omega) _ _ _ (trivial) hO H locs hP hD hS ls (lv_sub hl [2, 3, 1, 0] rfl)
set_option maxHeartbeats 4000000 in
set_option maxRecDepth 100000 in
theorem mk_B {p : Program} {l : Launch} {e : Env} {s : State} {mi : MethodId} {args : Array Value} {below : List Frame} {meth : Method} {c : Code} {D : va_G} {y : Nat → ClassId} {A : Nat → Prop} {Q : State → Prop} {at_ : Nat}{q : Lad} {us : List Lad} {sv : Option Lad} {rs dt ix lf : Int32} {M : Nat} {tx : Nat → Int32} {bs L : Nat} {xs : Nat → Int32} (hst : l.stackTraces = false) (C0 : mC p l c mi s args D y A cL_makes 7 wsL_makes) (hX : va_X bs L xs s s.heap) (hbl : bs < s.heap.size) (hbA : ¬ A bs) (hL : L < 2 ^ 31) (N j c9 kk cb sb : Nat) (Z : Int32) (hcb : cb ≤ 36) (hsb : sb ≤ 220) (hc : q.1 = nI c9) (hc9 : c9 < 24) (hh : q.2.1 = 0) (hkk : kk < 1000) (k0 : ∀ (q2 : Lad) (us2 : List Lad) (rs2 dt2 ix2 : Int32) (c2 : Nat), q2.1 = nI c2 → c2 ≤ c9 + 1 → 0 < c2 → q2.2.1 = 0 → mW p l e (rmx 14 480 40 240) s mi args below meth c D y A at_ q2 us2 sv rs2 dt2 ix2 lf M tx (anyT) [] Q 7 16 [(0, .ref at_), (1, .ref bs), (2, .int (nI N)), (3, .int (nI (j + 1)))] (cb + 2) (sb + 12)) : mW p l e (rmx 14 480 40 240) s mi args below meth c D y A at_ q us sv rs dt ix lf M tx (anyT) [] Q 7 58 [(0, .ref at_), (1, .ref bs), (2, .int (nI N)), (3, .int (nI j)), (4, .int (Z)), (5, .int (nI kk))] (cb) (sb) := by
  obtain ⟨hx, hb, hml, hown, hts, hK, hA, hZ, hN, hJ, -⟩ := C0
  intro C S hC hS9 V NN TT hPT hO H locs hP hD hS ls hl
  have hG := Ob_GL hO
  have hr1 : inR 0 999 (nI kk) = true := nI_inR (lo := 0) (hi := 999) (by omega) (by omega) (by omega)
  refine lv_iload hx hb dL_makes_58 (lv_at hl 4 rfl) ?_
  refine lv_bipush (v := 6) hx hb dL_makes_60 (by decide) ?_
  refine lv_iand hx hb dL_makes_62 ?_
  refine lv_if_ne (tgt := 95) hx hb dL_makes_63 (by decide) (fun c1 => ?_) (fun c1 => ?_)
  · refine lv_aload_n hx hb dL_makes_95 rfl (lv_at hl 0 rfl) ?_
    refine lv_iload hx hb dL_makes_96 (lv_at hl 5 rfl) ?_
    refine lv_iload hx hb dL_makes_98 (lv_at hl 4 rfl) ?_
    refine lv_iconst (v := 4) hx hb dL_makes_100 (by decide) ?_
    refine lv_ishr hx hb dL_makes_101 ?_
    refine lv_bipush (v := 100) hx hb dL_makes_102 (by decide) ?_
    refine ow_Mi (As := [.int ((Z) >>> (((4 : Int32)) &&& 31)), .int ((100 : Int32))]) (rest := [.int (nI kk), .ref at_]) ⟨hx, hb, hml, hown, hts⟩ (o_some l D y H.size ((Z) >>> (((4 : Int32)) &&& 31)) 100 (by decide) V) (va_cwS 2 hts gL_makes_L_some rfl rfl rfl (by decide +kernel) ⟨(Nat.le_of_ble_eq_true rfl), (Nat.le_of_ble_eq_true rfl)⟩) hK hP hD hS hA hZ hN hJ rfl hl.1 rfl (Nat.le_of_ble_eq_true rfl) dL_makes_104 ⟨by show C + 0 ≤ 40; omega, by show S + 0 ≤ 240; omega⟩ (fun r9 V H locs h9 hP hD hS => ?_)
    obtain ⟨rfl, hV9⟩ := h9; have hO := Ob_eq hV9 hO
    obtain ⟨ww, hww, eww⟩ := sm_lt (v := (Z) >>> (((4 : Int32)) &&& 31)) (n := 100) (by decide) (by decide)
    refine s1_is (z := nI ww) eww ?_
    have hr2 : inR 0 99 (nI ww) = true := nI_inR (lo := 0) (hi := 99) (by omega) (by omega) (by omega)
    have hr3 : inR 1 5 (1) = true := by decide
    refine ow_Si (As := [.ref at_, .int (nI kk), .int (nI ww)]) (rest := []) ⟨hx, hb, hml, hown, hts⟩ (oL_file l hst D y H.size at_ V (nI kk) (nI ww) hO) (vx_cwSW 3 hts gL_makes_L_file rfl rfl rfl (by decide +kernel) ⟨(Nat.le_of_ble_eq_true rfl), (Nat.le_of_ble_eq_true rfl)⟩) hK hP hD hS hA hZ hN hJ rfl hl.1 rfl (Nat.le_of_ble_eq_true rfl) dL_makes_107 ⟨by show C + 0 + 1 ≤ 40; omega, by show S + 0 + 6 ≤ 240; omega⟩ (fun r9 V H locs h9 hP hD hS => ?_)
    rcases h9 with ⟨hr0, rfl, hge, hG2, hO⟩ | ⟨hr0, rfl, hO⟩
    · refine lv_istore (lv' := [(6, .int ((ordC q 43 (nI kk) (nI ww) (1)).1)), (0, .ref at_), (1, .ref bs), (2, .int (nI N)), (3, .int (nI j)), (4, .int (Z)), (5, .int (nI kk))]) hx hb dL_makes_110 hl (by decide) rfl (fun ls hl => ?_)
      refine lv_iload hx hb dL_makes_112 (lv_at hl 0 rfl) ?_
      refine lv_if_ge (tgt := 128) hx hb dL_makes_114 (by decide) (fun _ => ?_) (fun h9 => absurd (hge) h9)
      refine lv_iinc (v := nI (j + 1)) (lv' := [(3, .int (nI (j + 1))), (6, .int ((ordC q 43 (nI kk) (nI ww) (1)).1)), (0, .ref at_), (1, .ref bs), (2, .int (nI N)), (4, .int (Z)), (5, .int (nI kk))]) hx hb dL_makes_128 hl (k := 4) rfl (nI_1 j) (by decide) rfl (fun ls hl => ?_)
      refine lv_goto (tgt := 16) hx hb dL_makes_131 (by decide) ?_
      exact (k0 (ordC q 43 (nI kk) (nI ww) (1)).2 (push q us) rs dt ix (c9 + 1) (C_filing hG hc hc9 (by decide)).1 (Nat.le_refl _) (Nat.succ_pos _) ((C_filing hG hc hc9 (by decide)).2.trans hh)) _ _ (by omega) (by omega) _ _ _ (trivial) hO H locs hP hD hS ls (lv_sub hl [2, 3, 4, 0] rfl)
    · obtain ⟨jj, hjj, hR⟩ := R_fil_no hc9 hc (by decide) hr1 hr2 hr3 hr0
      have hO := Ob_rd hR hO
      refine lv_istore (lv' := [(6, .int (-1001)), (0, .ref at_), (1, .ref bs), (2, .int (nI N)), (3, .int (nI j)), (4, .int (Z)), (5, .int (nI kk))]) hx hb dL_makes_110 hl (by decide) rfl (fun ls hl => ?_)
      refine lv_iload hx hb dL_makes_112 (lv_at hl 0 rfl) ?_
      refine lv_if_ge (tgt := 128) hx hb dL_makes_114 (by decide) (fun h9 => absurd h9 (by decide)) (fun _ => ?_)
      refine lv_aload_n hx hb dL_makes_117 rfl (lv_at hl 1 rfl) ?_
      refine lv_iconst (v := 0) hx hb dL_makes_118 (by decide) ?_
      refine ow_Si (As := [.ref at_, .int ((0 : Int32))]) (rest := []) ⟨hx, hb, hml, hown, hts⟩ (oL_reason l hst D y H.size at_ V 0 hO) (vx_cwSW 2 hts gL_makes_L_reason rfl rfl rfl (by decide +kernel) ⟨(Nat.le_of_ble_eq_true rfl), (Nat.le_of_ble_eq_true rfl)⟩) hK hP hD hS hA hZ hN hJ rfl hl.1 rfl (Nat.le_of_ble_eq_true rfl) dL_makes_119 ⟨by show C + 0 + 1 + 1 ≤ 40; omega, by show S + 0 + 6 + 6 ≤ 240; omega⟩ (fun r9 V H locs h9 hP hD hS => ?_)
      obtain ⟨rfl, hO⟩ := h9
      refine lv_iconst (v := 4) hx hb dL_makes_122 (by decide) ?_
      refine lv_icmp_eq (tgt := 128) hx hb dL_makes_123 (by decide) (fun _ => ?_) (fun h9 => absurd (z_r4.1) h9)
      refine lv_iinc (v := nI (j + 1)) (lv' := [(3, .int (nI (j + 1))), (6, .int (-1001)), (0, .ref at_), (1, .ref bs), (2, .int (nI N)), (4, .int (Z)), (5, .int (nI kk))]) hx hb dL_makes_128 hl (k := 4) rfl (nI_1 j) (by decide) rfl (fun ls hl => ?_)
      refine lv_goto (tgt := 16) hx hb dL_makes_131 (by decide) ?_
      exact (k0 q us 4 (nI jj) 0 c9 hc (Nat.le_succ _) (by omega) hh) _ _ (by omega) (by omega) _ _ _ (trivial) hO H locs hP hD hS ls (lv_sub hl [2, 3, 4, 0] rfl)
  · refine lv_aload_n hx hb dL_makes_66 rfl (lv_at hl 0 rfl) ?_
    refine lv_iload hx hb dL_makes_67 (lv_at hl 5 rfl) ?_
    refine lv_iload hx hb dL_makes_69 (lv_at hl 4 rfl) ?_
    refine lv_iconst (v := 4) hx hb dL_makes_71 (by decide) ?_
    refine lv_ishr hx hb dL_makes_72 ?_
    refine lv_bipush (v := 100) hx hb dL_makes_73 (by decide) ?_
    refine ow_Mi (As := [.int ((Z) >>> (((4 : Int32)) &&& 31)), .int ((100 : Int32))]) (rest := [.int (nI kk), .ref at_]) ⟨hx, hb, hml, hown, hts⟩ (o_some l D y H.size ((Z) >>> (((4 : Int32)) &&& 31)) 100 (by decide) V) (va_cwS 2 hts gL_makes_L_some rfl rfl rfl (by decide +kernel) ⟨(Nat.le_of_ble_eq_true rfl), (Nat.le_of_ble_eq_true rfl)⟩) hK hP hD hS hA hZ hN hJ rfl hl.1 rfl (Nat.le_of_ble_eq_true rfl) dL_makes_75 ⟨by show C + 0 ≤ 40; omega, by show S + 0 ≤ 240; omega⟩ (fun r9 V H locs h9 hP hD hS => ?_)
    obtain ⟨rfl, hV9⟩ := h9; have hO := Ob_eq hV9 hO
    obtain ⟨ww, hww, eww⟩ := sm_lt (v := (Z) >>> (((4 : Int32)) &&& 31)) (n := 100) (by decide) (by decide)
    refine s1_is (z := nI ww) eww ?_
    refine lv_iconst (v := 1) hx hb dL_makes_78 (by decide) ?_
    refine lv_iload hx hb dL_makes_79 (lv_at hl 4 rfl) ?_
    refine lv_bipush (v := 6) hx hb dL_makes_81 (by decide) ?_
    refine lv_ishr hx hb dL_makes_83 ?_
    refine lv_iconst (v := 5) hx hb dL_makes_84 (by decide) ?_
    refine ow_Mi (As := [.int ((Z) >>> (((6 : Int32)) &&& 31)), .int ((5 : Int32))]) (rest := [.int ((1 : Int32)), .int (nI ww), .int (nI kk), .ref at_]) ⟨hx, hb, hml, hown, hts⟩ (o_some l D y H.size ((Z) >>> (((6 : Int32)) &&& 31)) 5 (by decide) V) (va_cwS 2 hts gL_makes_L_some rfl rfl rfl (by decide +kernel) ⟨(Nat.le_of_ble_eq_true rfl), (Nat.le_of_ble_eq_true rfl)⟩) hK hP hD hS hA hZ hN hJ rfl hl.1 rfl (Nat.le_of_ble_eq_true rfl) dL_makes_85 ⟨by show C + 0 + 0 ≤ 40; omega, by show S + 0 + 0 ≤ 240; omega⟩ (fun r9 V H locs h9 hP hD hS => ?_)
    obtain ⟨rfl, hV9⟩ := h9; have hO := Ob_eq hV9 hO
    obtain ⟨w5, hw5, ew5⟩ := sm_lt (v := (Z) >>> (((6 : Int32)) &&& 31)) (n := 5) (by decide) (by decide)
    refine s1_is (z := nI w5) ew5 ?_
    refine lv_iadd hx hb dL_makes_88 ?_
    refine s1_is (z := nI (1 + w5)) (nI_add 1 w5) ?_
    have hr2 : inR 0 99 (nI ww) = true := nI_inR (lo := 0) (hi := 99) (by omega) (by omega) (by omega)
    have hr3 : inR 1 5 (nI (1 + w5)) = true := nI_inR (lo := 1) (hi := 5) (by omega) (by omega) (by omega)
    refine ow_Si (As := [.ref at_, .int (nI kk), .int (nI ww), .int (nI (1 + w5))]) (rest := []) ⟨hx, hb, hml, hown, hts⟩ (oL_fileTall l hst D y H.size at_ V (nI kk) (nI ww) (nI (1 + w5)) hO) (vx_cwSW 4 hts gL_makes_L_fileTall rfl rfl rfl (by decide +kernel) ⟨(Nat.le_of_ble_eq_true rfl), (Nat.le_of_ble_eq_true rfl)⟩) hK hP hD hS hA hZ hN hJ rfl hl.1 rfl (Nat.le_of_ble_eq_true rfl) dL_makes_89 ⟨by show C + 0 + 0 + 1 ≤ 40; omega, by show S + 0 + 0 + 6 ≤ 240; omega⟩ (fun r9 V H locs h9 hP hD hS => ?_)
    rcases h9 with ⟨hr0, rfl, hge, hG2, hO⟩ | ⟨hr0, rfl, hO⟩
    · refine lv_goto (tgt := 110) hx hb dL_makes_92 (by decide) ?_
      refine lv_istore (lv' := [(6, .int ((ordC q 94 (nI kk) (nI ww) (nI (1 + w5))).1)), (0, .ref at_), (1, .ref bs), (2, .int (nI N)), (3, .int (nI j)), (4, .int (Z)), (5, .int (nI kk))]) hx hb dL_makes_110 hl (by decide) rfl (fun ls hl => ?_)
      refine lv_iload hx hb dL_makes_112 (lv_at hl 0 rfl) ?_
      refine lv_if_ge (tgt := 128) hx hb dL_makes_114 (by decide) (fun _ => ?_) (fun h9 => absurd (hge) h9)
      refine lv_iinc (v := nI (j + 1)) (lv' := [(3, .int (nI (j + 1))), (6, .int ((ordC q 94 (nI kk) (nI ww) (nI (1 + w5))).1)), (0, .ref at_), (1, .ref bs), (2, .int (nI N)), (4, .int (Z)), (5, .int (nI kk))]) hx hb dL_makes_128 hl (k := 4) rfl (nI_1 j) (by decide) rfl (fun ls hl => ?_)
      refine lv_goto (tgt := 16) hx hb dL_makes_131 (by decide) ?_
      exact (k0 (ordC q 94 (nI kk) (nI ww) (nI (1 + w5))).2 (push q us) rs dt ix (c9 + 1) (C_filing hG hc hc9 (by decide)).1 (Nat.le_refl _) (Nat.succ_pos _) ((C_filing hG hc hc9 (by decide)).2.trans hh)) _ _ (by omega) (by omega) _ _ _ (trivial) hO H locs hP hD hS ls (lv_sub hl [2, 3, 4, 0] rfl)
    · obtain ⟨jj, hjj, hR⟩ := R_fil_no hc9 hc (by decide) hr1 hr2 hr3 hr0
      have hO := Ob_rd hR hO
      refine lv_goto (tgt := 110) hx hb dL_makes_92 (by decide) ?_
      refine lv_istore (lv' := [(6, .int (-1001)), (0, .ref at_), (1, .ref bs), (2, .int (nI N)), (3, .int (nI j)), (4, .int (Z)), (5, .int (nI kk))]) hx hb dL_makes_110 hl (by decide) rfl (fun ls hl => ?_)
      refine lv_iload hx hb dL_makes_112 (lv_at hl 0 rfl) ?_
      refine lv_if_ge (tgt := 128) hx hb dL_makes_114 (by decide) (fun h9 => absurd h9 (by decide)) (fun _ => ?_)
      refine lv_aload_n hx hb dL_makes_117 rfl (lv_at hl 1 rfl) ?_
      refine lv_iconst (v := 0) hx hb dL_makes_118 (by decide) ?_
      refine ow_Si (As := [.ref at_, .int ((0 : Int32))]) (rest := []) ⟨hx, hb, hml, hown, hts⟩ (oL_reason l hst D y H.size at_ V 0 hO) (vx_cwSW 2 hts gL_makes_L_reason rfl rfl rfl (by decide +kernel) ⟨(Nat.le_of_ble_eq_true rfl), (Nat.le_of_ble_eq_true rfl)⟩) hK hP hD hS hA hZ hN hJ rfl hl.1 rfl (Nat.le_of_ble_eq_true rfl) dL_makes_119 ⟨by show C + 0 + 0 + 1 + 1 ≤ 40; omega, by show S + 0 + 0 + 6 + 6 ≤ 240; omega⟩ (fun r9 V H locs h9 hP hD hS => ?_)
      obtain ⟨rfl, hO⟩ := h9
      refine lv_iconst (v := 4) hx hb dL_makes_122 (by decide) ?_
      refine lv_icmp_eq (tgt := 128) hx hb dL_makes_123 (by decide) (fun _ => ?_) (fun h9 => absurd (z_r4.1) h9)
      refine lv_iinc (v := nI (j + 1)) (lv' := [(3, .int (nI (j + 1))), (6, .int (-1001)), (0, .ref at_), (1, .ref bs), (2, .int (nI N)), (4, .int (Z)), (5, .int (nI kk))]) hx hb dL_makes_128 hl (k := 4) rfl (nI_1 j) (by decide) rfl (fun ls hl => ?_)
      refine lv_goto (tgt := 16) hx hb dL_makes_131 (by decide) ?_
      exact (k0 q us 4 (nI jj) 0 c9 hc (Nat.le_succ _) (by omega) hh) _ _ (by omega) (by omega) _ _ _ (trivial) hO H locs hP hD hS ls (lv_sub hl [2, 3, 4, 0] rfl)
set_option maxHeartbeats 4000000 in
set_option maxRecDepth 100000 in
theorem mk_L {p : Program} {l : Launch} {e : Env} {s : State} {mi : MethodId} {args : Array Value} {below : List Frame} {meth : Method} {c : Code} {D : va_G} {y : Nat → ClassId} {A : Nat → Prop} {Q : State → Prop} {at_ : Nat}{sv : Option Lad} {lf : Int32} {M : Nat} {tx : Nat → Int32} {bs L : Nat} {xs : Nat → Int32} (hst : l.stackTraces = false) (C0 : mC p l c mi s args D y A cL_makes 7 wsL_makes) (hX : va_X bs L xs s s.heap) (hbl : bs < s.heap.size) (hbA : ¬ A bs) (hL : L < 2 ^ 31) (N : Nat) (hN6 : 6 ≤ N) (hN : N ≤ 15) (k0 : ∀ (q : Lad) (us : List Lad) (rs dt ix : Int32) (c9 : Nat), q.1 = nI c9 → c9 ≤ 15 → 0 < c9 → q.2.1 = 0 → mW p l e (rmx 14 480 40 240) s mi args below meth c D y A at_ q us sv rs dt ix lf M tx (anyT) [] Q 7 134 [(0, .ref at_), (1, .ref bs)] (30) (180)) : ∀ d j : Nat, j + d = N → ∀ (q : Lad) (us : List Lad) (rs dt ix : Int32) (c9 : Nat), q.1 = nI c9 → c9 ≤ j → (0 < j → 0 < c9) → q.2.1 = 0 → mW p l e (rmx 14 480 40 240) s mi args below meth c D y A at_ q us sv rs dt ix lf M tx (anyT) [] Q 7 16 [(0, .ref at_), (1, .ref bs), (2, .int (nI N)), (3, .int (nI j))] (2 * j) (12 * j) := by
  have C1 := C0
  obtain ⟨hx, hb, hml, hown, hts, hK, hA, hZ, hN, hJ, -⟩ := C1
  intro d
  induction d with
  | zero =>
    intro j hj q us rs dt ix c9 hc hcj h0 hh
    obtain rfl : j = N := by omega
    intro C S hC hS9 V NN TT hPT hO H locs hP hD hS ls hl
    refine lv_iload_n hx hb dL_makes_16 rfl (lv_at hl 3 rfl) ?_
    refine lv_iload_n hx hb dL_makes_17 rfl (lv_at hl 2 rfl) ?_
    refine lv_icmp_ge (tgt := 134) hx hb dL_makes_18 (by decide) (fun _ => ?_) (fun h9 => absurd (Int32.le_refl _) h9)
    exact (k0 q us rs dt ix c9 hc (by omega) (h0 (by omega)) hh) _ _ (by omega) (by omega) _ _ _ (trivial) hO H locs hP hD hS ls (lv_sub hl [0, 1] rfl)
  | succ d ih =>
    intro j hj q us rs dt ix c9 hc hcj h0 hh
    intro C S hC hS9 V NN TT hPT hO H locs hP hD hS ls hl
    refine lv_iload_n hx hb dL_makes_16 rfl (lv_at hl 3 rfl) ?_
    refine lv_iload_n hx hb dL_makes_17 rfl (lv_at hl 2 rfl) ?_
    refine lv_icmp_ge (tgt := 134) hx hb dL_makes_18 (by decide) (fun h9 => absurd h9 (fun z => by have := (nI_leI (a := N) (b := j) (by omega) (by omega)).mp z; omega)) (fun _ => ?_)
    refine lv_aload_n hx hb dL_makes_21 rfl (lv_at hl 1 rfl) ?_
    refine lv_iconst (v := 1) hx hb dL_makes_22 (by decide) ?_
    refine lv_iload_n hx hb dL_makes_23 rfl (lv_at hl 3 rfl) ?_
    refine lv_iadd hx hb dL_makes_24 ?_
    refine s1_is (z := nI (1 + j)) (nI_add 1 j) ?_
    refine ox_S (As := [.ref bs, .int (nI (1 + j))]) (rest := []) ⟨hx, hb, hml, hown, hts⟩ (o_at l bs L xs hL (1 + j) (by omega)) (va_cwS 2 hts gL_makes_L_at rfl rfl rfl (by decide +kernel) ⟨(Nat.le_of_ble_eq_true rfl), (Nat.le_of_ble_eq_true rfl)⟩) hX hbl hbA hS rfl hl.1 rfl (Nat.le_of_ble_eq_true rfl) dL_makes_25 ⟨by show C + 0 ≤ 40; omega, by show S + 0 ≤ 240; omega⟩ ?_
    refine lv_iload_n hx hb dL_makes_28 rfl (lv_at hl 3 rfl) ?_
    refine lv_sipush (v := 7919) hx hb dL_makes_29 (by decide) ?_
    refine lv_imul hx hb dL_makes_32 ?_
    obtain ⟨Z, eZ⟩ : ∃ z : Int32, ((atN L xs (1 + j))) ^^^ ((nI j) * ((7919 : Int32))) = z := ⟨_, rfl⟩
    refine lv_ixor hx hb dL_makes_33 ?_
    refine s1_is (z := Z) eZ ?_
    refine lv_istore (lv' := [(4, .int (Z)), (0, .ref at_), (1, .ref bs), (2, .int (nI N)), (3, .int (nI j))]) hx hb dL_makes_34 hl (by decide) rfl (fun ls hl => ?_)
    refine lv_iload hx hb dL_makes_36 (lv_at hl 0 rfl) ?_
    refine lv_iload hx hb dL_makes_38 (lv_at hl 0 rfl) ?_
    refine lv_iconst (v := 1) hx hb dL_makes_40 (by decide) ?_
    refine lv_iand hx hb dL_makes_41 ?_
    refine lv_if_ne (tgt := 50) hx hb dL_makes_42 (by decide) (fun c1 => ?_) (fun c1 => ?_)
    · refine lv_sipush (v := 1000) hx hb dL_makes_50 (by decide) ?_
      refine ow_Mi (As := [.int (Z), .int ((1000 : Int32))]) (rest := []) ⟨hx, hb, hml, hown, hts⟩ (o_some l D y H.size (Z) 1000 (by decide) V) (va_cwS 2 hts gL_makes_L_some rfl rfl rfl (by decide +kernel) ⟨(Nat.le_of_ble_eq_true rfl), (Nat.le_of_ble_eq_true rfl)⟩) hK hP hD hS hA hZ hN hJ rfl hl.1 rfl (Nat.le_of_ble_eq_true rfl) dL_makes_53 ⟨by show C + 0 + 0 ≤ 40; omega, by show S + 0 + 0 ≤ 240; omega⟩ (fun r9 V H locs h9 hP hD hS => ?_)
      obtain ⟨rfl, hV9⟩ := h9; have hO := Ob_eq hV9 hO
      obtain ⟨kk, hkk, ekk⟩ := sm_lt (v := Z) (n := 1000) (by decide) (by decide)
      refine s1_is (z := nI kk) ekk ?_
      refine lv_istore (lv' := [(5, .int (nI kk)), (4, .int (Z)), (0, .ref at_), (1, .ref bs), (2, .int (nI N)), (3, .int (nI j))]) hx hb dL_makes_56 hl (by decide) rfl (fun ls hl => ?_)
      exact (mk_B hst C0 hX hbl hbA hL N j c9 kk (2 * j) (12 * j) Z (by omega) (by omega) hc (by omega) hh (by omega) (fun q2 us2 rs2 dt2 ix2 c2 g1 g2 g3 g4 => by have h := ih (j + 1) (by omega) q2 us2 rs2 dt2 ix2 c2 g1 (by omega) (fun _ => g3) g4; rw [show 2 * (j + 1) = 2 * j + 2 by omega, show 12 * (j + 1) = 12 * j + 12 by omega] at h; exact h)) _ _ (by omega) (by omega) _ _ _ (trivial) hO H locs hP hD hS ls (lv_sub hl [2, 3, 4, 5, 1, 0] rfl)
    · refine lv_bipush (v := 60) hx hb dL_makes_45 (by decide) ?_
      refine lv_goto (tgt := 53) hx hb dL_makes_47 (by decide) ?_
      refine ow_Mi (As := [.int (Z), .int ((60 : Int32))]) (rest := []) ⟨hx, hb, hml, hown, hts⟩ (o_some l D y H.size (Z) 60 (by decide) V) (va_cwS 2 hts gL_makes_L_some rfl rfl rfl (by decide +kernel) ⟨(Nat.le_of_ble_eq_true rfl), (Nat.le_of_ble_eq_true rfl)⟩) hK hP hD hS hA hZ hN hJ rfl hl.1 rfl (Nat.le_of_ble_eq_true rfl) dL_makes_53 ⟨by show C + 0 + 0 ≤ 40; omega, by show S + 0 + 0 ≤ 240; omega⟩ (fun r9 V H locs h9 hP hD hS => ?_)
      obtain ⟨rfl, hV9⟩ := h9; have hO := Ob_eq hV9 hO
      obtain ⟨kk, hkk, ekk⟩ := sm_lt (v := Z) (n := 60) (by decide) (by decide)
      refine s1_is (z := nI kk) ekk ?_
      refine lv_istore (lv' := [(5, .int (nI kk)), (4, .int (Z)), (0, .ref at_), (1, .ref bs), (2, .int (nI N)), (3, .int (nI j))]) hx hb dL_makes_56 hl (by decide) rfl (fun ls hl => ?_)
      exact (mk_B hst C0 hX hbl hbA hL N j c9 kk (2 * j) (12 * j) Z (by omega) (by omega) hc (by omega) hh (by omega) (fun q2 us2 rs2 dt2 ix2 c2 g1 g2 g3 g4 => by have h := ih (j + 1) (by omega) q2 us2 rs2 dt2 ix2 c2 g1 (by omega) (fun _ => g3) g4; rw [show 2 * (j + 1) = 2 * j + 2 by omega, show 12 * (j + 1) = 12 * j + 12 by omega] at h; exact h)) _ _ (by omega) (by omega) _ _ _ (trivial) hO H locs hP hD hS ls (lv_sub hl [2, 3, 4, 5, 1, 0] rfl)
set_option maxHeartbeats 4000000 in
set_option maxRecDepth 100000 in
theorem mk_E {p : Program} {l : Launch} {e : Env} {s : State} {mi : MethodId} {args : Array Value} {below : List Frame} {meth : Method} {c : Code} {D : va_G} {y : Nat → ClassId} {A : Nat → Prop} {at_ : Nat}{q : Lad} {us : List Lad} {sv : Option Lad} {rs dt ix lf : Int32} {M : Nat} {tx : Nat → Int32} {bs L : Nat} {xs : Nat → Int32} {V0 : va_W} (hst : l.stackTraces = false) (C0 : mC p l c mi s args D y A cL_makes 7 wsL_makes) (hX : va_X bs L xs s s.heap) (hbl : bs < s.heap.size) (hbA : ¬ A bs) (hL : L < 2 ^ 31) (hr : meth.sig.returnType = some .boolean) (hlocks : meth.locks = false) (hAe : va_A V0 s.heap.size = A) (c9 : Nat) (hc : q.1 = nI c9) (hc15 : c9 ≤ 15) (h0 : 0 < c9) (hh : q.2.1 = 0) : mW p l e (rmx 14 480 40 240) s mi args below meth c D y A at_ q us sv rs dt ix lf M tx (anyT) [] (MQ below (oQi D y 0 (fun r V' => r = 1 ∧ ∃ (q2 : Lad) (us2 : List Lad) (rs2 dt2 ix2 : Int32) (c2 : Nat), q2.1 = nI c2 ∧ 0 < c2 ∧ c2 ≤ 24 ∧ ∃ NN TT, Ob y at_ q2 us2 sv rs2 dt2 ix2 lf M tx NN TT V') V0 s.heap.size) args s 40 240 (va_A V0 s.heap.size)) 7 134 [(0, .ref at_), (1, .ref bs)] (30) (180) := by
  obtain ⟨hx, hb, hml, hown, hts, hK, hA, hZ, hN, hJ, -⟩ := C0
  intro C S hC hS9 V NN TT hPT hO H locs hP hD hS ls hl
  refine lv_aload_n hx hb dL_makes_134 rfl (lv_at hl 1 rfl) ?_
  refine lv_bipush (v := 17) hx hb dL_makes_135 (by decide) ?_
  refine s1_is (z := nI 17) (rfl) ?_
  refine ox_S (As := [.ref bs, .int (nI (17))]) (rest := []) ⟨hx, hb, hml, hown, hts⟩ (o_at l bs L xs hL (17) (by decide)) (va_cwS 2 hts gL_makes_L_at rfl rfl rfl (by decide +kernel) ⟨(Nat.le_of_ble_eq_true rfl), (Nat.le_of_ble_eq_true rfl)⟩) hX hbl hbA hS rfl hl.1 rfl (Nat.le_of_ble_eq_true rfl) dL_makes_137 ⟨by show C + 0 ≤ 40; omega, by show S + 0 ≤ 240; omega⟩ ?_
  refine lv_iconst (v := 5) hx hb dL_makes_140 (by decide) ?_
  refine ow_Mi (As := [.int ((atN L xs (17))), .int ((5 : Int32))]) (rest := []) ⟨hx, hb, hml, hown, hts⟩ (o_some l D y H.size ((atN L xs (17))) 5 (by decide) V) (va_cwS 2 hts gL_makes_L_some rfl rfl rfl (by decide +kernel) ⟨(Nat.le_of_ble_eq_true rfl), (Nat.le_of_ble_eq_true rfl)⟩) hK hP hD hS hA hZ hN hJ rfl hl.1 rfl (Nat.le_of_ble_eq_true rfl) dL_makes_141 ⟨by show C + 0 + 0 ≤ 40; omega, by show S + 0 + 0 ≤ 240; omega⟩ (fun r9 V H locs h9 hP hD hS => ?_)
  obtain ⟨rfl, hV9⟩ := h9; have hO := Ob_eq hV9 hO
  obtain ⟨lv, hlv, elv⟩ := sm_lt (v := (atN L xs (17))) (n := 5) (by decide) (by decide)
  refine s1_is (z := nI lv) elv ?_
  refine lv_istore_n (lv' := [(3, .int (nI lv)), (0, .ref at_), (1, .ref bs)]) hx hb dL_makes_144 rfl hl (by decide) rfl (fun ls hl => ?_)
  refine lv_iload_n hx hb dL_makes_145 rfl (lv_at hl 0 rfl) ?_
  refine lv_if_eq (tgt := 157) hx hb dL_makes_146 (by decide) (fun c1 => ?_) (fun c1 => ?_)
  · refine lv_iconst (v := 1) hx hb dL_makes_157 (by decide) ?_
    refine lv_goto (tgt := 162) hx hb dL_makes_158 (by decide) ?_
    refine W.widen (k := 40) (n := 240) (by omega) (by omega) ?_
    exact omret_z hx hb hr rfl hlocks hAe hK hP hD hS (⟨rfl, q, us, rs, dt, ix, c9, hc, h0, by omega, _, _, hO⟩) dL_makes_162
  · have h1 : 1 ≤ lv := by
      rcases Nat.eq_zero_or_pos lv with h | h
      · exact absurd (by rw [h]; rfl) c1
      · exact h
    refine lv_aload_n hx hb dL_makes_149 rfl (lv_at hl 1 rfl) ?_
    refine lv_iload_n hx hb dL_makes_150 rfl (lv_at hl 0 rfl) ?_
    refine ow_Si (As := [.ref at_, .int (nI lv)]) (rest := []) ⟨hx, hb, hml, hown, hts⟩ (oL_forget l hst D y H.size at_ V (nI lv) hO) (vx_cwSW 2 hts gL_makes_L_forget rfl rfl rfl (by decide +kernel) ⟨(Nat.le_of_ble_eq_true rfl), (Nat.le_of_ble_eq_true rfl)⟩) hK hP hD hS hA hZ hN hJ rfl hl.1 rfl (Nat.le_of_ble_eq_true rfl) dL_makes_151 ⟨by show C + 0 + 0 + 1 ≤ 40; omega, by show S + 0 + 0 + 6 ≤ 240; omega⟩ (fun r9 V H locs h9 hP hD hS => ?_)
    obtain ⟨-, rfl, hge, hG2, hO⟩ := h9.resolve_right (fun z => z.1 (by rw [R_forget0 hc hh h1 (by omega)]))
    refine lv_if_lt (tgt := 161) hx hb dL_makes_154 (by decide) (fun h9 => absurd h9 (Int32.not_lt.mpr hge)) (fun _ => ?_)
    refine lv_iconst (v := 1) hx hb dL_makes_157 (by decide) ?_
    refine lv_goto (tgt := 162) hx hb dL_makes_158 (by decide) ?_
    refine W.widen (k := 40) (n := 240) (by omega) (by omega) ?_
    exact omret_z hx hb hr rfl hlocks hAe hK hP hD hS (⟨rfl, _, push q us, rs, dt, ix, c9, (C_forget (by omega) hc).trans hc, h0, by omega, _, _, hO⟩) dL_makes_162
set_option maxHeartbeats 4000000 in
set_option maxRecDepth 100000 in
theorem oL_makes (l : Launch) (hst : l.stackTraces = false) (D : va_G) (y : Nat → ClassId) (sz at_ : Nat) {q : Lad} {us : List Lad} {sv : Option Lad} {rs dt ix lf : Int32} {M : Nat} {tx : Nat → Int32} {NN : Nat} {TT : Nat → Nat} (V : va_W) (bs L : Nat) (xs : Nat → Int32) (hL : L < 2 ^ 31) (h0 : q.1 = 0) (hh : q.2.1 = 0) (hO : Ob y at_ q us sv rs dt ix lf M tx NN TT V) : Met l yL_makes wsL_makes (rmx 14 480 40 240) (ylP D y V sz [.ref at_, .ref bs] bs L xs) (oQi D y 0 (fun r V' => r = 1 ∧ ∃ (q2 : Lad) (us2 : List Lad) (rs2 dt2 ix2 : Int32) (c2 : Nat), q2.1 = nI c2 ∧ 0 < c2 ∧ c2 ≤ 24 ∧ ∃ NN TT, Ob y at_ q2 us2 sv rs2 dt2 ix2 lf M tx NN TT V') V sz) 40 240 (va_A V sz) := by
  refine Met.ofW (cc := cL_makes) (maxL := 7) (ret := (some .boolean)) (by decide) rfl ?_
  intro p e s mi args below meth c s₁ B hml hv
  obtain ⟨hav, hsz, hP, hK, hD0, hZ, hN, hJ, hX, hbl, hbA⟩ := hv
  have hx := B.exec
  have hb := B.bytes
  have hr := B.returns
  have hts := atoms_spec (ws := wsL_makes) B.pre
  have hown : s.vm.findClass RL = some mi.cls := findClass_of_methodNamed B.named
  have hlocks := B.notSynchronized
  subst hsz
  have hD := hD0.self (sz := s.heap.size)
  obtain ⟨A, hAe⟩ : ∃ A : Nat → Prop, va_A V s.heap.size = A := ⟨_, rfl⟩
  rw [hAe] at hD hZ hJ hbA
  have hA : ∀ q, s.heap.size ≤ q → A q := fun q h => by rw [← hAe]; exact Or.inr h
  have hS : va_S A s.heap s.heap [] := va_S.rf
  have hP : va_P D vwCl (V ++ []) s.heap := by rw [List.append_nil]; exact hP
  have hD : va_D A (V ++ []) := by rw [List.append_nil]; exact hD
  have C0 : mC p l c mi s args D y A cL_makes 7 wsL_makes := ⟨hx, hb, hml, hown, hts, hK, hA, hZ, hN, hJ, hst⟩
  have k0 := mk_0 (p := p) (e := e) (below := below) (meth := meth) (q := q) (us := us) (sv := sv) (rs := rs) (dt := dt) (ix := ix) (lf := lf) (M := M) (tx := tx) (at_ := at_) (Q := MQ below (oQi D y 0 (fun r V' => r = 1 ∧ ∃ (q2 : Lad) (us2 : List Lad) (rs2 dt2 ix2 : Int32) (c2 : Nat), q2.1 = nI c2 ∧ 0 < c2 ∧ c2 ≤ 24 ∧ ∃ NN TT, Ob y at_ q2 us2 sv rs2 dt2 ix2 lf M tx NN TT V') V s.heap.size) args s 40 240 (va_A V s.heap.size)) hst C0 hX hbl hbA hL (fun N h1 h2 => mk_L hst C0 hX hbl hbA hL N h1 h2 (fun q us rs dt ix c9 g1 g2 g3 g4 => mk_E hst C0 hX hbl hbA hL hr hlocks hAe c9 g1 g2 g3 g4) N 0 (Nat.zero_add N) q us rs dt ix 0 h0 (Nat.le_refl 0) (fun h => absurd h (Nat.lt_irrefl 0)) hh)
  refine W_entry hav (Nat.le_of_ble_eq_true rfl) (fun ls hl => ?_)
  exact k0 0 0 (Nat.le_refl 0) (Nat.le_refl 0) V NN TT trivial hO s.heap [] hP hD hS ls hl
