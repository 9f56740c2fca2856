/-! the second archive -/
set_option maxHeartbeats 4000000 in
set_option maxRecDepth 100000 in
theorem ln_0 {p : Program} {l : Launch} {e : Env} {s : State} {mi : MethodId} {args : Array Value} {below : List Frame} {meth : Method} {c : Code} {D : va_G} {y : Nat → ClassId} {A : Nat → Prop} {Q : State → Prop} {b : Nat} (C0 : mC p l c mi s args D y A cL_law 11 wsL_law) (hNX : nX7 args s) (C S : Nat) (hC : C ≤ 0) (hSl : S ≤ 0) {H : Heap} {locs : List Loc} (hS : va_S A s.heap H locs) {ls : Array Slot} (hl : lv_has ls 11 [(0, .ref b)]) (k0 : ∀ at_ : Nat, mW p l e (rmx 2048 94400 739810 6872417) s mi args below meth c D y A at_ lad0 [] none 0 0 0 (-1) 0 ((fun _ => 0)) (anyT) [] Q 11 8 [(0, .ref b), (1, .ref at_)] (0 + 65) (0 + 1012)) : W p l e (rmx 2048 94400 739810 6872417) s mi args below meth c H locs C S Q (F0 mi 0 ls []) := by
  obtain ⟨hx, hb, hml, hown, hts, hK, hA, hZ, hN, hJ, -⟩ := C0
  obtain ⟨hn1, hn2, hn3, hn4, hn5, hn6⟩ := hNX
  refine va_new (ci := 11) (fs := [.null, .null, .null, .null, .null, .null, .null, .null, .int 0, .int 0, .null]) (C := RX7) (T := TX7) (N := 11) (Ts := u_ws RX7 TX7 11) hx hb hn6 (fun _ h => h) tyX7 tyX7_ok hown hn1 hn2 hn3 hK (va_P_nil) (va_D_nil) hS hA rfl (fun j hj => by rcases (show j = 0 ∨ j = 1 ∨ j = 2 ∨ j = 3 ∨ j = 4 ∨ j = 5 ∨ j = 6 ∨ j = 7 ∨ j = 8 ∨ j = 9 ∨ j = 10 by omega) with rfl | rfl | rfl | rfl | rfl | rfl | rfl | rfl | rfl | rfl | rfl <;> rfl) (by show C + 1 ≤ 739810; omega) (by show S + 11 ≤ 6872417; omega) dL_law_0 (fun q0 H hP hD hS => ?_)
  refine lv_dup hx hb dL_law_3 rfl ?_
  refine cj_I (As := []) (rest := [.ref q0]) (wr := []) ⟨hx, hb, hml, hown, hts⟩ (c_X7_init l D y H.size q0) (cwI 0 hts gL_law_X7_init rfl rfl rfl hn3 hn4 hn5 rfl (by decide +kernel) ⟨(Nat.le_of_ble_eq_true rfl), (Nat.le_of_ble_eq_true rfl)⟩) hK hP hD hS hA hJ [0] [] rfl rfl rfl rfl (by decide) rfl hl.1 rfl (Nat.le_of_ble_eq_true rfl) dL_law_4 ⟨by show C + 1 + 64 ≤ 739810; omega, by show S + 11 + 1001 ≤ 6872417; omega⟩ (fun u H locs hP hD hS => ?_)
  have hO := Ob_new (y := y) (at_ := q0) (u := u)
  obtain ⟨V, hV⟩ : ∃ V, w1_X7_init y q0 u = V := ⟨_, rfl⟩
  rw [hV] at hO
  have hP : va_P D vwCl (V ++ []) H := by rw [List.append_nil, ← hV]; exact hP
  have hD : va_D A (V ++ []) := by rw [List.append_nil, ← hV]; exact hD
  refine lv_astore_n (lv' := [(1, .ref q0), (0, .ref b)]) hx hb dL_law_7 rfl hl (by decide) rfl (fun ls hl => ?_)
  exact k0 q0 _ _ (by omega) (by omega) V _ _ trivial hO H locs hP hD hS ls (lv_sub hl [1, 0] rfl)
set_option maxHeartbeats 4000000 in
set_option maxRecDepth 100000 in
theorem ln_1 {p : Program} {l : Launch} {e : Env} {s : State} {mi : MethodId} {args : Array Value} {below : List Frame} {meth : Method} {c : Code} {D : va_G} {y : Nat → ClassId} {A : Nat → Prop} {Q : State → Prop} {b : Nat} (C0 : mC p l c mi s args D y A cL_law 11 wsL_law) (hNX : nX7 args s) (C S : Nat) (hC : C ≤ 250) (hSl : S ≤ 2100) {H : Heap} {locs : List Loc} (hS : va_S A s.heap H locs) {ls : Array Slot} (hl : lv_has ls 11 [(0, .ref b)]) (k0 : ∀ at_ : Nat, mW p l e (rmx 2048 94400 739810 6872417) s mi args below meth c D y A at_ lad0 [] none 0 0 0 (-1) 0 ((fun _ => 0)) (anyT) [] Q 11 571 [(0, .ref b), (2, .ref at_)] (250 + 65) (2100 + 1012)) : W p l e (rmx 2048 94400 739810 6872417) s mi args below meth c H locs C S Q (F0 mi 563 ls []) := by
  obtain ⟨hx, hb, hml, hown, hts, hK, hA, hZ, hN, hJ, -⟩ := C0
  obtain ⟨hn1, hn2, hn3, hn4, hn5, hn6⟩ := hNX
  refine va_new (ci := 11) (fs := [.null, .null, .null, .null, .null, .null, .null, .null, .int 0, .int 0, .null]) (C := RX7) (T := TX7) (N := 11) (Ts := u_ws RX7 TX7 11) hx hb hn6 (fun _ h => h) tyX7 tyX7_ok hown hn1 hn2 hn3 hK (va_P_nil) (va_D_nil) hS hA rfl (fun j hj => by rcases (show j = 0 ∨ j = 1 ∨ j = 2 ∨ j = 3 ∨ j = 4 ∨ j = 5 ∨ j = 6 ∨ j = 7 ∨ j = 8 ∨ j = 9 ∨ j = 10 by omega) with rfl | rfl | rfl | rfl | rfl | rfl | rfl | rfl | rfl | rfl | rfl <;> rfl) (by show C + 1 ≤ 739810; omega) (by show S + 11 ≤ 6872417; omega) dL_law_563 (fun q0 H hP hD hS => ?_)
  refine lv_dup hx hb dL_law_566 rfl ?_
  refine cj_I (As := []) (rest := [.ref q0]) (wr := []) ⟨hx, hb, hml, hown, hts⟩ (c_X7_init l D y H.size q0) (cwI 0 hts gL_law_X7_init rfl rfl rfl hn3 hn4 hn5 rfl (by decide +kernel) ⟨(Nat.le_of_ble_eq_true rfl), (Nat.le_of_ble_eq_true rfl)⟩) hK hP hD hS hA hJ [0] [] rfl rfl rfl rfl (by decide) rfl hl.1 rfl (Nat.le_of_ble_eq_true rfl) dL_law_567 ⟨by show C + 1 + 64 ≤ 739810; omega, by show S + 11 + 1001 ≤ 6872417; omega⟩ (fun u H locs hP hD hS => ?_)
  have hO := Ob_new (y := y) (at_ := q0) (u := u)
  obtain ⟨V, hV⟩ : ∃ V, w1_X7_init y q0 u = V := ⟨_, rfl⟩
  rw [hV] at hO
  have hP : va_P D vwCl (V ++ []) H := by rw [List.append_nil, ← hV]; exact hP
  have hD : va_D A (V ++ []) := by rw [List.append_nil, ← hV]; exact hD
  refine lv_astore_n (lv' := [(2, .ref q0), (0, .ref b)]) hx hb dL_law_570 rfl hl (by decide) rfl (fun ls hl => ?_)
  exact k0 q0 _ _ (by omega) (by omega) V _ _ trivial hO H locs hP hD hS ls (lv_sub hl [1, 0] rfl)
set_option maxHeartbeats 4000000 in
set_option maxRecDepth 100000 in
theorem lo_A {p : Program} {l : Launch} {e : Env} {s : State} {mi : MethodId} {args : Array Value} {below : List Frame} {meth : Method} {c : Code} {D : va_G} {y : Nat → ClassId} {A : Nat → Prop} {Q : State → Prop} {at_ b L : Nat} {xs : Nat → Int32} {ad : Nat → Nat} (hst : l.stackTraces = false) (C0 : mC p l c mi s args D y A cL_law 11 wsL_law) (hX : va_X b L xs s s.heap) (hbl : b < s.heap.size) (hbA : ¬ A b) (hL : L < 2 ^ 31) (hKS : kS ad A s s.heap) (hAL : (Cond.arrayClass (newarray.typeOf .long)).before args s = true) (k0 : ∀ (w : Nat) (qA : Lad) (us0 : List Lad) (rs dt ix lf : Int32) (tx : Nat → Int32), us0.length ≤ 8 → mW p l e (rmx 2048 94400 739810 6872417) s mi args below meth c D y A at_ qA us0 ((some qA)) rs dt ix lf 0 tx (anyT) [(w, .inl (y 3, 11, .inr (.inl (fun _ => 0))))] Q 11 643 [(0, .ref b), (2, .ref at_), (3, .long (askV qA)), (5, .int (qA.1)), (6, .ref w), (7, .int (nI 0)), (8, .int (nI 0))] (12700) (68000)) : mW p l e (rmx 2048 94400 739810 6872417) s mi args below meth c D y A at_ lad0 [] none 0 0 0 (-1) 0 ((fun _ => 0)) (anyT) [] Q 11 571 [(0, .ref b), (2, .ref at_)] (320) (3120) := by
  obtain ⟨hx, hb, hml, hown, hts, hK, hA, hZ, hN, hJ, -⟩ := C0
  intro C S hC hS9 V NN TT hPT hO H locs hP hD hS ls hl
  refine lv_aload_n hx hb dL_law_571 rfl (lv_at hl 1 rfl) ?_
  refine lv_aload_n hx hb dL_law_572 rfl (lv_at hl 0 rfl) ?_
  refine ow_Y (As := [.ref at_, .ref b]) (rest := []) ⟨hx, hb, hml, hown, hts⟩ (oL_makes l hst D y H.size at_ V b L xs hL rfl rfl hO) (va_cwS 2 hts gL_law_L_makes rfl rfl rfl (by decide +kernel) ⟨(Nat.le_of_ble_eq_true rfl), (Nat.le_of_ble_eq_true rfl)⟩) hK hP hD hS hA hZ hN hJ hX hbl hbA rfl hl.1 rfl (Nat.le_of_ble_eq_true rfl) dL_law_573 ⟨by show C + 40 ≤ 739810; omega, by show S + 240 ≤ 6872417; omega⟩ (fun r9 V H locs h9 hP hD hS => ?_)
  obtain ⟨rfl, qA, us0, rs, dt, ix, c9, hc9, h09, h24, N9, T9, hO⟩ := h9
  refine lv_if_ne (tgt := 581) hx hb dL_law_576 (by decide) (fun _ => ?_) (fun h9 => absurd h9 (by decide))
  refine lv_aload_n hx hb dL_law_581 rfl (lv_at hl 1 rfl) ?_
  refine ow_Ml (As := [.ref at_]) (rest := []) ⟨hx, hb, hml, hown, hts⟩ (oL_asks l hst D y H.size at_ V hO) (va_cwS 1 hts gL_law_L_asks rfl rfl rfl (by decide +kernel) ⟨(Nat.le_of_ble_eq_true rfl), (Nat.le_of_ble_eq_true rfl)⟩) hK hP hD hS hA hZ hN hJ rfl hl.1 rfl (Nat.le_of_ble_eq_true rfl) dL_law_582 ⟨by show C + 40 + 2300 ≤ 739810; omega, by show S + 240 + 12000 ≤ 6872417; omega⟩ (fun r9 V H locs h9 hP hD hS => ?_)
  obtain ⟨rfl, N9, T9, hO⟩ := h9
  refine lv_lstore_n (lv' := [(3, .long (askV qA)), (0, .ref b), (2, .ref at_)]) hx hb dL_law_585 rfl hl (by decide) rfl (fun ls hl => ?_)
  refine lv_aload_n hx hb dL_law_586 rfl (lv_at hl 2 rfl) ?_
  refine ow_Ml (As := [.ref at_]) (rest := []) ⟨hx, hb, hml, hown, hts⟩ (oL_asks l hst D y H.size at_ V hO) (va_cwS 1 hts gL_law_L_asks rfl rfl rfl (by decide +kernel) ⟨(Nat.le_of_ble_eq_true rfl), (Nat.le_of_ble_eq_true rfl)⟩) hK hP hD hS hA hZ hN hJ rfl hl.1 rfl (Nat.le_of_ble_eq_true rfl) dL_law_587 ⟨by show C + 40 + 2300 + 2300 ≤ 739810; omega, by show S + 240 + 12000 + 12000 ≤ 6872417; omega⟩ (fun r9 V H locs h9 hP hD hS => ?_)
  obtain ⟨rfl, N9, T9, hO⟩ := h9
  refine lv_lload_n hx hb dL_law_590 rfl (lv_at hl 0 rfl) ?_
  refine W.lcmp hx hb dL_law_591 ?_
  refine lv_if_ne (tgt := 602) hx hb dL_law_592 (by decide) (fun h9 => absurd ((lg_cmp_eq _ _).mpr (rfl)) h9) (fun _ => ?_)
  refine lv_aload_n hx hb dL_law_595 rfl (lv_at hl 2 rfl) ?_
  refine ow_K (As := [.ref at_]) (rest := []) ⟨hx, hb, hml, hown, hts⟩ (oL_refused l hst D y H.size at_ V ad c9 hc9 h09 h24 hO) (va_cwS 1 hts gL_law_L_refused rfl rfl rfl (by decide +kernel) ⟨(Nat.le_of_ble_eq_true rfl), (Nat.le_of_ble_eq_true rfl)⟩) hK hP hD hS hA hZ hN hJ hKS rfl hl.1 rfl (Nat.le_of_ble_eq_true rfl) dL_law_596 ⟨by show C + 40 + 2300 + 2300 + 5200 ≤ 739810; omega, by show S + 240 + 12000 + 12000 + 28000 ≤ 6872417; omega⟩ (fun r9 V H locs h9 hP hD hS => ?_)
  obtain ⟨rfl, rs2, dt2, ix2, lf2, tx2, N9, T9, hO⟩ := h9
  refine lv_if_ne (tgt := 604) hx hb dL_law_599 (by decide) (fun _ => ?_) (fun h9 => absurd h9 (by decide))
  refine lv_aload_n hx hb dL_law_604 rfl (lv_at hl 2 rfl) ?_
  obtain ⟨fs, he⟩ := Ob_head hO
  refine ow_V (As := []) (rest := []) ⟨hx, hb, hml, hown, hts⟩ (o_save l hst D y H.size at_ V hO) (cwV 0 hts gL_law_X7_save rfl rfl rfl (by decide +kernel) ⟨(Nat.le_of_ble_eq_true rfl), (Nat.le_of_ble_eq_true rfl)⟩) he hK hP hD hS hA hZ hN hJ rfl hl.1 rfl (Nat.le_of_ble_eq_true rfl) dL_law_605 ⟨by show C + 40 + 2300 + 2300 + 5200 + 0 ≤ 739810; omega, by show S + 240 + 12000 + 12000 + 28000 + 0 ≤ 6872417; omega⟩ (fun hk => absurd rfl hk) (fun _ r9 V H locs h9 hP hD hS => ?_)
  obtain ⟨rfl, hO⟩ := h9
  refine lv_istore (lv' := [(5, .int (qA.1)), (3, .long (askV qA)), (0, .ref b), (2, .ref at_)]) hx hb dL_law_608 hl (by decide) rfl (fun ls hl => ?_)
  refine lv_iload hx hb dL_law_610 (lv_at hl 0 rfl) ?_
  refine lv_aload_n hx hb dL_law_612 rfl (lv_at hl 3 rfl) ?_
  refine lv_iconst (v := 0) hx hb dL_law_613 (by decide) ?_
  refine ow_Si (As := [.ref at_, .int ((0 : Int32))]) (rest := [.int (qA.1)]) ⟨hx, hb, hml, hown, hts⟩ (oL_account l hst D y H.size at_ V ((0 : Int32)) hO) (vx_cwSW 2 hts gL_law_L_account rfl rfl rfl (by decide +kernel) ⟨(Nat.le_of_ble_eq_true rfl), (Nat.le_of_ble_eq_true rfl)⟩) hK hP hD hS hA hZ hN hJ rfl hl.1 rfl (Nat.le_of_ble_eq_true rfl) dL_law_614 ⟨by show C + 40 + 2300 + 2300 + 5200 + 0 + 1 ≤ 739810; omega, by show S + 240 + 12000 + 12000 + 28000 + 0 + 6 ≤ 6872417; omega⟩ (fun r9 V H locs h9 hP hD hS => ?_)
  obtain ⟨rfl, hO⟩ := h9
  refine s1_is (z := qA.1) (acc_0) ?_
  refine lv_icmp_ne (tgt := 629) hx hb dL_law_617 (by decide) (fun h9 => absurd (rfl) h9) (fun _ => ?_)
  refine lv_aload_n hx hb dL_law_620 rfl (lv_at hl 3 rfl) ?_
  refine ow_Ml (As := [.ref at_]) (rest := []) ⟨hx, hb, hml, hown, hts⟩ (oL_asks l hst D y H.size at_ V hO) (va_cwS 1 hts gL_law_L_asks rfl rfl rfl (by decide +kernel) ⟨(Nat.le_of_ble_eq_true rfl), (Nat.le_of_ble_eq_true rfl)⟩) hK hP hD hS hA hZ hN hJ rfl hl.1 rfl (Nat.le_of_ble_eq_true rfl) dL_law_621 ⟨by show C + 40 + 2300 + 2300 + 5200 + 0 + 1 + 2300 ≤ 739810; omega, by show S + 240 + 12000 + 12000 + 28000 + 0 + 6 + 12000 ≤ 6872417; omega⟩ (fun r9 V H locs h9 hP hD hS => ?_)
  obtain ⟨rfl, N9, T9, hO⟩ := h9
  refine lv_lload_n hx hb dL_law_624 rfl (lv_at hl 1 rfl) ?_
  refine W.lcmp hx hb dL_law_625 ?_
  refine lv_if_eq (tgt := 631) hx hb dL_law_626 (by decide) (fun _ => ?_) (fun h9 => absurd ((lg_cmp_eq _ _).mpr (rfl)) h9)
  refine lv_bipush (v := 11) hx hb dL_law_631 (by decide) ?_
  refine s1_is (z := nI 11) rfl ?_
  refine nw_a (atype := .long) hx hb hAL rfl hK hP hD hS hA (a0 := (11, .inr (.inl (fun _ => 0)))) (N' := 11) (fun _ => rfl) (by decide) (by decide) (by decide) (by show C + 40 + 2300 + 2300 + 5200 + 0 + 1 + 2300 + 1 ≤ 739810; omega) (by show S + 240 + 12000 + 12000 + 28000 + 0 + 6 + 12000 + 11 ≤ 6872417; omega) dL_law_633 3 rfl (fun w H hP hD hS => ?_)
  rw [List.append_nil] at hP hD
  refine lv_astore (lv' := [(6, .ref w), (5, .int (qA.1)), (3, .long (askV qA)), (0, .ref b), (2, .ref at_)]) hx hb dL_law_635 hl (by decide) rfl (fun ls hl => ?_)
  refine lv_iconst (v := 0) hx hb dL_law_637 (by decide) ?_
  refine s1_is (z := nI 0) (rfl) ?_
  refine lv_istore (lv' := [(7, .int (nI 0)), (6, .ref w), (5, .int (qA.1)), (3, .long (askV qA)), (0, .ref b), (2, .ref at_)]) hx hb dL_law_638 hl (by decide) rfl (fun ls hl => ?_)
  refine lv_iconst (v := 0) hx hb dL_law_640 (by decide) ?_
  refine s1_is (z := nI 0) (rfl) ?_
  refine lv_istore (lv' := [(8, .int (nI 0)), (7, .int (nI 0)), (6, .ref w), (5, .int (qA.1)), (3, .long (askV qA)), (0, .ref b), (2, .ref at_)]) hx hb dL_law_641 hl (by decide) rfl (fun ls hl => ?_)
  exact k0 w qA us0 rs2 dt2 ix2 lf2 tx2 (Ob_us hO) _ _ (by omega) (by omega) V _ _ trivial hO H locs hP hD hS ls (lv_sub hl [5, 6, 4, 3, 2, 1, 0] rfl)
set_option maxHeartbeats 4000000 in
set_option maxRecDepth 100000 in
theorem lo_B {p : Program} {l : Launch} {e : Env} {s : State} {mi : MethodId} {args : Array Value} {below : List Frame} {meth : Method} {c : Code} {D : va_G} {y : Nat → ClassId} {A : Nat → Prop} {Q : State → Prop} {at_ b L w : Nat} {xs : Nat → Int32} {ad : Nat → Nat} (hst : l.stackTraces = false) (C0 : mC p l c mi s args D y A cL_law 11 wsL_law) (hX : va_X b L xs s s.heap) (hbl : b < s.heap.size) (hbA : ¬ A b) (hL : L < 2 ^ 31) (hKS : kS ad A s s.heap) (qA : Lad) (us0 : List Lad) (k0 : ∀ (qs : List Lad) (f : Nat → Int64) (q : Lad) (us : List Lad) (rs dt ix lf : Int32) (tx : Nat → Int32), us = (qs ++ us0).take 8 → qs.length ≤ 10 → (∀ k, k < qs.length → f k = askV (qs.getD (qs.length - 1 - k) lad0)) → mW p l e (rmx 2048 94400 739810 6872417) s mi args below meth c D y A at_ q us ((some qA)) rs dt ix lf 0 tx (anyT) [(w, .inl (y 3, 11, .inr (.inl (f))))] Q 11 710 [(0, .ref b), (2, .ref at_), (3, .long (askV qA)), (5, .int (qA.1)), (6, .ref w), (7, .int (nI qs.length))] (59400) (312600)) : ∀ d i : Nat, i + d = 10 → ∀ (qs : List Lad) (f : Nat → Int64) (q : Lad) (us : List Lad) (rs dt ix lf : Int32) (tx : Nat → Int32), us = (qs ++ us0).take 8 → qs.length ≤ i → (∀ k, k < qs.length → f k = askV (qs.getD (qs.length - 1 - k) lad0)) → mW p l e (rmx 2048 94400 739810 6872417) s mi args below meth c D y A at_ q us ((some qA)) rs dt ix lf 0 tx (anyT) [(w, .inl (y 3, 11, .inr (.inl (f))))] Q 11 643 [(0, .ref b), (2, .ref at_), (3, .long (askV qA)), (5, .int (qA.1)), (6, .ref w), (7, .int (nI qs.length)), (8, .int (nI i))] (12700 + 4670 * i) (68000 + 24460 * i) := by
  have C1 := C0
  obtain ⟨hx, hb, hml, hown, hts, hK, hA, hZ, hN, hJ, -⟩ := C1
  intro d
  induction d with
  | zero =>
    intro i hi qs f q us rs dt ix lf tx hus hln hf
    obtain rfl : i = 10 := by omega
    intro C S hC hS9 V NN TT hPT hO H locs hP hD hS ls hl
    refine lv_iload hx hb dL_law_643 (lv_at hl 6 rfl) ?_
    refine lv_bipush (v := 10) hx hb dL_law_645 (by decide) ?_
    refine lv_icmp_ge (tgt := 710) hx hb dL_law_647 (by decide) (fun _ => ?_) (fun h9 => absurd (Int32.le_refl _) h9)
    exact (k0 qs f q us rs dt ix lf tx hus hln hf) _ _ (by omega) (by omega) _ _ _ (trivial) hO H locs hP hD hS ls (lv_sub hl [0, 1, 2, 3, 4, 5] rfl)
  | succ d ih =>
    intro i hi qs f q us rs dt ix lf tx hus hln hf
    intro C S hC hS9 V NN TT hPT hO H locs hP hD hS ls hl
    refine lv_iload hx hb dL_law_643 (lv_at hl 6 rfl) ?_
    refine lv_bipush (v := 10) hx hb dL_law_645 (by decide) ?_
    refine lv_icmp_ge (tgt := 710) hx hb dL_law_647 (by decide) (fun h9 => absurd h9 (fun z => by have := (nI_leI (a := 10) (b := i) (by omega) (by omega)).mp z; omega)) (fun _ => ?_)
    refine lv_aload_n hx hb dL_law_650 rfl (lv_at hl 1 rfl) ?_
    refine ow_Ml (As := [.ref at_]) (rest := []) ⟨hx, hb, hml, hown, hts⟩ (oL_asks l hst D y H.size at_ V hO) (va_cwS 1 hts gL_law_L_asks rfl rfl rfl (by decide +kernel) ⟨(Nat.le_of_ble_eq_true rfl), (Nat.le_of_ble_eq_true rfl)⟩) hK hP hD hS hA hZ hN hJ rfl hl.1 rfl (Nat.le_of_ble_eq_true rfl) dL_law_651 ⟨by show C + 2300 ≤ 739810; omega, by show S + 12000 ≤ 6872417; omega⟩ (fun r9 V H locs h9 hP hD hS => ?_)
    obtain ⟨rfl, N9, T9, hO⟩ := h9
    refine lv_lstore (lv' := [(9, .long (askV q)), (0, .ref b), (2, .ref at_), (3, .long (askV qA)), (5, .int (qA.1)), (6, .ref w), (7, .int (nI qs.length)), (8, .int (nI i))]) hx hb dL_law_654 hl (by decide) rfl (fun ls hl => ?_)
    refine lv_aload_n hx hb dL_law_656 rfl (lv_at hl 2 rfl) ?_
    refine lv_aload_n hx hb dL_law_657 rfl (lv_at hl 1 rfl) ?_
    refine lv_bipush (v := 20) hx hb dL_law_658 (by decide) ?_
    refine lv_iload hx hb dL_law_660 (lv_at hl 7 rfl) ?_
    refine lv_iadd hx hb dL_law_662 ?_
    refine s1_is (z := nI (20 + i)) (nI_add 20 i) ?_
    refine ox_S (As := [.ref b, .int (nI (20 + i))]) (rest := [.ref at_]) ⟨hx, hb, hml, hown, hts⟩ (o_at l b L xs hL (20 + i) (by omega)) (va_cwS 2 hts gL_law_L_at rfl rfl rfl (by decide +kernel) ⟨(Nat.le_of_ble_eq_true rfl), (Nat.le_of_ble_eq_true rfl)⟩) hX hbl hbA hS rfl hl.1 rfl (Nat.le_of_ble_eq_true rfl) dL_law_663 ⟨by show C + 2300 + 0 ≤ 739810; omega, by show S + 12000 + 0 ≤ 6872417; omega⟩ ?_
    refine lv_iload hx hb dL_law_666 (lv_at hl 7 rfl) ?_
    refine lv_sipush (v := 977) hx hb dL_law_668 (by decide) ?_
    refine lv_imul hx hb dL_law_671 ?_
    obtain ⟨X9, eX9⟩ : ∃ z : Int32, ((atN L xs (20 + i))) ^^^ ((nI i) * ((977 : Int32))) = z := ⟨_, rfl⟩
    refine lv_ixor hx hb dL_law_672 ?_
    refine s1_is (z := X9) eX9 ?_
    refine ow_K (As := [.ref at_, .int X9]) (rest := []) ⟨hx, hb, hml, hown, hts⟩ (oL_changes l hst D y H.size at_ V ad X9 hO) (va_cwS 2 hts gL_law_L_changes rfl rfl rfl (by decide +kernel) ⟨(Nat.le_of_ble_eq_true rfl), (Nat.le_of_ble_eq_true rfl)⟩) hK hP hD hS hA hZ hN hJ hKS rfl hl.1 rfl (Nat.le_of_ble_eq_true rfl) dL_law_673 ⟨by show C + 2300 + 0 + 70 ≤ 739810; omega, by show S + 12000 + 0 + 460 ≤ 6872417; omega⟩ (fun r9 V H locs h9 hP hD hS => ?_)
    rcases h9 with ⟨h9r, q2, rs2, dt2, ix2, lf2, tx2, N2, T2, hG2, hO⟩ | ⟨h9r, rs2, dt2, ix2, lf2, tx2, N2, T2, hO⟩
    · refine lv_if_eq (tgt := 692) hx hb dL_law_676 (by decide) (fun h9 => absurd h9 (by rw [h9r]; decide)) (fun _ => ?_)
      refine lv_aload hx hb dL_law_679 (lv_at hl 5 rfl) ?_
      refine lv_iload hx hb dL_law_681 (lv_at hl 6 rfl) ?_
      refine lv_iinc (v := nI (qs.length + 1)) (lv' := [(7, .int (nI (qs.length + 1))), (9, .long (askV q)), (0, .ref b), (2, .ref at_), (3, .long (askV qA)), (5, .int (qA.1)), (6, .ref w), (8, .int (nI i))]) hx hb dL_law_683 hl (k := 6) rfl (nI_1 _) (by decide) rfl (fun ls hl => ?_)
      refine lv_lload hx hb dL_law_686 (lv_at hl 1 rfl) ?_
      have hP := P_sw hP
      have hD := D_sw hD
      refine va_last hx hb hK hP hD hS 0 3 rfl rfl (vp_in_nI (n := qs.length) (N := 11) (by omega) (by decide)) dL_law_688 (fun H locs hP hD hS => ?_)
      rw [nI_clamp (by omega)] at hP hD
      have hP : va_P D vwCl (V ++ [(w, .inl (y 3, 11, .inr (.inl (vp_updL f qs.length (askV q)))))]) H := P_sw (V := [(w, .inl (y 3, 11, .inr (.inl (vp_updL f qs.length (askV q)))))]) (E := V) hP
      have hD : va_D A (V ++ [(w, .inl (y 3, 11, .inr (.inl (vp_updL f qs.length (askV q)))))]) := D_sw (V := [(w, .inl (y 3, 11, .inr (.inl (vp_updL f qs.length (askV q)))))]) (E := V) hD
      refine lv_goto (tgt := 704) hx hb dL_law_689 (by decide) ?_
      refine lv_iinc (v := nI (i + 1)) (lv' := [(8, .int (nI (i + 1))), (7, .int (nI (qs.length + 1))), (9, .long (askV q)), (0, .ref b), (2, .ref at_), (3, .long (askV qA)), (5, .int (qA.1)), (6, .ref w)]) hx hb dL_law_704 hl (k := 7) rfl (nI_1 i) (by decide) rfl (fun ls hl => ?_)
      refine lv_goto (tgt := 643) hx hb dL_law_707 (by decide) ?_
      exact ih (i + 1) (by omega) (q :: qs) (vp_updL f qs.length (askV q)) q2 (push q us) rs2 dt2 ix2 lf2 tx2 (by rw [hus]; exact take_push _ _ _) (by show qs.length + 1 ≤ i + 1; omega) (upd_ask hf) _ _ (by omega) (by omega) V _ _ trivial hO H locs hP hD hS ls (lv_sub hl [3, 4, 5, 6, 7, 1, 0] rfl)
    · refine lv_if_eq (tgt := 692) hx hb dL_law_676 (by decide) (fun _ => ?_) (fun h9 => absurd (h9r) h9)
      refine lv_aload_n hx hb dL_law_692 rfl (lv_at hl 2 rfl) ?_
      refine ow_Ml (As := [.ref at_]) (rest := []) ⟨hx, hb, hml, hown, hts⟩ (oL_asks l hst D y H.size at_ V hO) (va_cwS 1 hts gL_law_L_asks rfl rfl rfl (by decide +kernel) ⟨(Nat.le_of_ble_eq_true rfl), (Nat.le_of_ble_eq_true rfl)⟩) hK hP hD hS hA hZ hN hJ rfl hl.1 rfl (Nat.le_of_ble_eq_true rfl) dL_law_693 ⟨by show C + 2300 + 0 + 70 + 2300 ≤ 739810; omega, by show S + 12000 + 0 + 460 + 12000 ≤ 6872417; omega⟩ (fun r9 V H locs h9 hP hD hS => ?_)
      obtain ⟨rfl, N9, T9, hO⟩ := h9
      refine lv_lload hx hb dL_law_696 (lv_at hl 0 rfl) ?_
      refine W.lcmp hx hb dL_law_698 ?_
      refine lv_if_eq (tgt := 704) hx hb dL_law_699 (by decide) (fun _ => ?_) (fun h9 => absurd ((lg_cmp_eq _ _).mpr (rfl)) h9)
      refine lv_iinc (v := nI (i + 1)) (lv' := [(8, .int (nI (i + 1))), (9, .long (askV q)), (0, .ref b), (2, .ref at_), (3, .long (askV qA)), (5, .int (qA.1)), (6, .ref w), (7, .int (nI qs.length))]) hx hb dL_law_704 hl (k := 7) rfl (nI_1 i) (by decide) rfl (fun ls hl => ?_)
      refine lv_goto (tgt := 643) hx hb dL_law_707 (by decide) ?_
      exact ih (i + 1) (by omega) qs f q us rs2 dt2 ix2 lf2 tx2 hus (by omega) hf _ _ (by omega) (by omega) V _ _ trivial hO H locs hP hD hS ls (lv_sub hl [2, 3, 4, 5, 6, 7, 0] rfl)
set_option maxHeartbeats 4000000 in
set_option maxRecDepth 100000 in
theorem lo_C {p : Program} {l : Launch} {e : Env} {s : State} {mi : MethodId} {args : Array Value} {below : List Frame} {meth : Method} {c : Code} {D : va_G} {y : Nat → ClassId} {A : Nat → Prop} {Q : State → Prop} {at_ b L w : Nat} {xs : Nat → Int32} {ad : Nat → Nat} {qA q : Lad} {us : List Lad} {rs dt ix lf : Int32} {tx : Nat → Int32} (hst : l.stackTraces = false) (C0 : mC p l c mi s args D y A cL_law 11 wsL_law) (hX : va_X b L xs s s.heap) (hbl : b < s.heap.size) (hbA : ¬ A b) (hL : L < 2 ^ 31) (hKS : kS ad A s s.heap) (hm1 : (Cond.methodLink RL 338 Lib.Math.min.name).before args s = true) (hm2 : (Cond.static Lib.Math.min.name).before args s = true) (hm3 : (Cond.initialized "java/lang/Math").before args s = true) (hm4 : (Cond.code Lib.Math.min.name Lib.Math.min.code 2 (some .int)).before args s = true) (qs : List Lad) (f : Nat → Int64) (hln : qs.length ≤ 10) (k0 : mW p l e (rmx 2048 94400 739810 6872417) s mi args below meth c D y A at_ q us ((some qA)) rs dt ix lf 0 tx (anyT) [(w, .inl (y 3, 11, .inr (.inl (f))))] Q 11 722 [(0, .ref b), (2, .ref at_), (3, .long (askV qA)), (5, .int (qA.1)), (6, .ref w), (7, .int (nI qs.length)), (8, .int (nI (min 8 qs.length))), (9, .int (nI (0 + 1)))] (59400) (312600)) : mW p l e (rmx 2048 94400 739810 6872417) s mi args below meth c D y A at_ q us ((some qA)) rs dt ix lf 0 tx (anyT) [(w, .inl (y 3, 11, .inr (.inl (f))))] Q 11 710 [(0, .ref b), (2, .ref at_), (3, .long (askV qA)), (5, .int (qA.1)), (6, .ref w), (7, .int (nI qs.length))] (59400) (312600) := by
  obtain ⟨hx, hb, hml, hown, hts, hK, hA, hZ, hN, hJ, -⟩ := C0
  intro C S hC hS9 V NN TT hPT hO H locs hP hD hS ls hl
  refine lv_bipush (v := 8) hx hb dL_law_710 (by decide) ?_
  refine lv_iload hx hb dL_law_712 (lv_at hl 5 rfl) ?_
  refine va_mmin hx hb (hml.trans hl.1.symm) hown hm1 hm2 hm3 hm4 (Nat.le_of_ble_eq_true rfl) (Nat.le_of_ble_eq_true rfl) (by show C ≤ 739810; omega) (by show S ≤ 6872417; omega) dL_law_714 ?_
  refine s1_is (z := nI (min 8 qs.length)) (mn8 (by omega)) ?_
  refine lv_istore (lv' := [(8, .int (nI (min 8 qs.length))), (0, .ref b), (2, .ref at_), (3, .long (askV qA)), (5, .int (qA.1)), (6, .ref w), (7, .int (nI qs.length))]) hx hb dL_law_717 hl (by decide) rfl (fun ls hl => ?_)
  refine lv_iconst (v := 1) hx hb dL_law_719 (by decide) ?_
  refine s1_is (z := nI (0 + 1)) (rfl) ?_
  refine lv_istore (lv' := [(9, .int (nI (0 + 1))), (8, .int (nI (min 8 qs.length))), (0, .ref b), (2, .ref at_), (3, .long (askV qA)), (5, .int (qA.1)), (6, .ref w), (7, .int (nI qs.length))]) hx hb dL_law_720 hl (by decide) rfl (fun ls hl => ?_)
  exact k0 _ _ (by omega) (by omega) _ _ _ (trivial) hO H locs hP hD hS ls (lv_sub hl [2, 3, 4, 5, 6, 7, 1, 0] rfl)
set_option maxHeartbeats 4000000 in
set_option maxRecDepth 100000 in
theorem lo_D {p : Program} {l : Launch} {e : Env} {s : State} {mi : MethodId} {args : Array Value} {below : List Frame} {meth : Method} {c : Code} {D : va_G} {y : Nat → ClassId} {A : Nat → Prop} {Q : State → Prop} {at_ b L w : Nat} {xs : Nat → Int32} {ad : Nat → Nat} (hst : l.stackTraces = false) (C0 : mC p l c mi s args D y A cL_law 11 wsL_law) (hX : va_X b L xs s s.heap) (hbl : b < s.heap.size) (hbA : ¬ A b) (hL : L < 2 ^ 31) (hKS : kS ad A s s.heap) (qA : Lad) (us0 : List Lad) (qs : List Lad) (f : Nat → Int64) (hln : qs.length ≤ 10) (hf : ∀ k, k < qs.length → f k = askV (qs.getD (qs.length - 1 - k) lad0)) (k0 : ∀ (q : Lad) (us : List Lad) (rs dt ix lf : Int32) (tx : Nat → Int32), mW p l e (rmx 2048 94400 739810 6872417) s mi args below meth c D y A at_ q us ((some qA)) rs dt ix lf 0 tx (anyT) [(w, .inl (y 3, 11, .inr (.inl (f))))] Q 11 779 [(0, .ref b), (2, .ref at_), (3, .long (askV qA)), (5, .int (qA.1))] (77900) (408700)) : ∀ d j : Nat, j + d = min 8 qs.length → ∀ (q : Lad) (us : List Lad) (rs dt ix lf : Int32) (tx : Nat → Int32), us = ((qs ++ us0).take 8).drop j → mW p l e (rmx 2048 94400 739810 6872417) s mi args below meth c D y A at_ q us ((some qA)) rs dt ix lf 0 tx (anyT) [(w, .inl (y 3, 11, .inr (.inl (f))))] Q 11 722 [(0, .ref b), (2, .ref at_), (3, .long (askV qA)), (5, .int (qA.1)), (6, .ref w), (7, .int (nI qs.length)), (8, .int (nI (min 8 qs.length))), (9, .int (nI (j + 1)))] (59400 + 2301 * j) (312600 + 12006 * j) := by
  have C1 := C0
  obtain ⟨hx, hb, hml, hown, hts, hK, hA, hZ, hN, hJ, -⟩ := C1
  intro d
  induction d with
  | zero =>
    intro j hj q us rs dt ix lf tx hus
    intro C S hC hS9 V NN TT hPT hO H locs hP hD hS ls hl
    refine lv_iload hx hb dL_law_722 (lv_at hl 7 rfl) ?_
    refine lv_iload hx hb dL_law_724 (lv_at hl 6 rfl) ?_
    refine lv_icmp_gt (tgt := 779) hx hb dL_law_726 (by decide) (fun _ => ?_) (fun h9 => absurd (gt_1 (by omega) (by omega)) h9)
    exact (k0 q us rs dt ix lf tx) _ _ (by omega) (by omega) _ _ _ (trivial) hO H locs hP hD hS ls (lv_sub hl [0, 1, 2, 3] rfl)
  | succ d ih =>
    intro j hj q us rs dt ix lf tx hus
    have hj8 : j < min 8 qs.length := by omega
    intro C S hC hS9 V NN TT hPT hO H locs hP hD hS ls hl
    refine lv_iload hx hb dL_law_722 (lv_at hl 7 rfl) ?_
    refine lv_iload hx hb dL_law_724 (lv_at hl 6 rfl) ?_
    refine lv_icmp_gt (tgt := 779) hx hb dL_law_726 (by decide) (fun h9 => absurd h9 (ngt_1 (by omega) (by omega))) (fun _ => ?_)
    refine lv_aload_n hx hb dL_law_729 rfl (lv_at hl 1 rfl) ?_
    refine ow_Si (As := [.ref at_]) (rest := []) ⟨hx, hb, hml, hown, hts⟩ (oL_undo l hst D y H.size at_ V  hO) (vx_cwSW 1 hts gL_law_L_undo rfl rfl rfl (by decide +kernel) ⟨(Nat.le_of_ble_eq_true rfl), (Nat.le_of_ble_eq_true rfl)⟩) hK hP hD hS hA hZ hN hJ rfl hl.1 rfl (Nat.le_of_ble_eq_true rfl) dL_law_730 ⟨by show C + 1 ≤ 739810; omega, by show S + 6 ≤ 6872417; omega⟩ (fun r9 V H locs h9 hP hD hS => ?_)
    obtain ⟨q2, vs, he, rfl, -, hO⟩ := h9.resolve_right (fun z => us_ne hus hj8 z.1)
    obtain ⟨hq2, hvs, hvl1, hvl2⟩ := us_cons hus hj8 he
    refine lv_istore (lv' := [(10, .int (nI vs.length)), (0, .ref b), (2, .ref at_), (3, .long (askV qA)), (5, .int (qA.1)), (6, .ref w), (7, .int (nI qs.length)), (8, .int (nI (min 8 qs.length))), (9, .int (nI (j + 1)))]) hx hb dL_law_733 hl (by decide) rfl (fun ls hl => ?_)
    refine lv_iload hx hb dL_law_735 (lv_at hl 0 rfl) ?_
    refine lv_iload hx hb dL_law_737 (lv_at hl 7 rfl) ?_
    refine lv_iload hx hb dL_law_739 (lv_at hl 8 rfl) ?_
    refine lv_isub hx hb dL_law_741 ?_
    refine s1_is (z := nI (min 8 qs.length - (j + 1))) (pk_sub (by omega)) ?_
    refine lv_icmp_lt (tgt := 771) hx hb dL_law_742 (by decide) (fun h9 => absurd h9 (nI_nlt hvl1 (by omega))) (fun _ => ?_)
    refine lv_iload hx hb dL_law_745 (lv_at hl 0 rfl) ?_
    refine lv_bipush (v := 8) hx hb dL_law_747 (by decide) ?_
    refine lv_iload hx hb dL_law_749 (lv_at hl 8 rfl) ?_
    refine lv_isub hx hb dL_law_751 ?_
    refine s1_is (z := nI (8 - (j + 1))) (pk_sub (a := 8) (by omega)) ?_
    refine lv_icmp_gt (tgt := 771) hx hb dL_law_752 (by decide) (fun h9 => absurd h9 (ngt_2 hvl2)) (fun _ => ?_)
    refine lv_aload_n hx hb dL_law_755 rfl (lv_at hl 2 rfl) ?_
    refine ow_Ml (As := [.ref at_]) (rest := []) ⟨hx, hb, hml, hown, hts⟩ (oL_asks l hst D y H.size at_ V hO) (va_cwS 1 hts gL_law_L_asks rfl rfl rfl (by decide +kernel) ⟨(Nat.le_of_ble_eq_true rfl), (Nat.le_of_ble_eq_true rfl)⟩) hK hP hD hS hA hZ hN hJ rfl hl.1 rfl (Nat.le_of_ble_eq_true rfl) dL_law_756 ⟨by show C + 1 + 2300 ≤ 739810; omega, by show S + 6 + 12000 ≤ 6872417; omega⟩ (fun r9 V H locs h9 hP hD hS => ?_)
    obtain ⟨rfl, N9, T9, hO⟩ := h9
    refine lv_aload hx hb dL_law_759 (lv_at hl 5 rfl) ?_
    refine lv_iload hx hb dL_law_761 (lv_at hl 6 rfl) ?_
    refine lv_iload hx hb dL_law_763 (lv_at hl 8 rfl) ?_
    refine lv_isub hx hb dL_law_765 ?_
    refine s1_is (z := nI (qs.length - (j + 1))) (pk_sub (by omega)) ?_
    have hP2 := P_sw hP
    refine va_lald hx hb hK hP2 0 3 rfl rfl (vp_in_nI (n := qs.length - (j + 1)) (N := 11) (by omega) (by decide)) dL_law_766 ?_
    refine W.lcmp hx hb dL_law_767 ?_
    refine lv_if_eq (tgt := 773) hx hb dL_law_768 (by decide) (fun _ => ?_) (fun h9 => absurd ((lg_cmp_eq _ _).mpr (un_ask hf hq2 hj8 hln)) h9)
    refine lv_iinc (v := nI (j + 1 + 1)) (lv' := [(9, .int (nI (j + 1 + 1))), (10, .int (nI vs.length)), (0, .ref b), (2, .ref at_), (3, .long (askV qA)), (5, .int (qA.1)), (6, .ref w), (7, .int (nI qs.length)), (8, .int (nI (min 8 qs.length)))]) hx hb dL_law_773 hl (k := 8) rfl (nI_1 _) (by decide) rfl (fun ls hl => ?_)
    refine lv_goto (tgt := 722) hx hb dL_law_776 (by decide) ?_
    exact ih (j + 1) (by omega) q2 vs rs dt ix lf tx hvs _ _ (by omega) (by omega) V _ _ trivial hO H locs hP hD hS ls (lv_sub hl [2, 3, 4, 5, 6, 7, 8, 0] rfl)
set_option maxHeartbeats 4000000 in
set_option maxRecDepth 100000 in
theorem lo_E {p : Program} {l : Launch} {e : Env} {s : State} {mi : MethodId} {args : Array Value} {below : List Frame} {meth : Method} {c : Code} {D : va_G} {y : Nat → ClassId} {A : Nat → Prop} {Q : State → Prop} {at_ b L w : Nat} {xs : Nat → Int32} {ad : Nat → Nat} {qA q : Lad} {us : List Lad} {rs dt ix lf : Int32} {tx : Nat → Int32} (hst : l.stackTraces = false) (C0 : mC p l c mi s args D y A cL_law 11 wsL_law) (hX : va_X b L xs s s.heap) (hbl : b < s.heap.size) (hbA : ¬ A b) (hL : L < 2 ^ 31) (hKS : kS ad A s s.heap) {f : Nat → Int64} (k0 : ∀ C S : Nat, C ≤ 83000 → S ≤ 433000 → ∀ (H : Heap) (locs : List Loc), va_S A s.heap H locs → ∀ ls : Array Slot, W p l e (rmx 2048 94400 739810 6872417) s mi args below meth c H locs C S Q (F0 mi 830 ls [.int 1])) : mW p l e (rmx 2048 94400 739810 6872417) s mi args below meth c D y A at_ q us ((some qA)) rs dt ix lf 0 tx (anyT) [(w, .inl (y 3, 11, .inr (.inl (f))))] Q 11 779 [(0, .ref b), (2, .ref at_), (3, .long (askV qA)), (5, .int (qA.1))] (77900) (408700) := by
  obtain ⟨hx, hb, hml, hown, hts, hK, hA, hZ, hN, hJ, -⟩ := C0
  intro C S hC hS9 V NN TT hPT hO H locs hP hD hS ls hl
  refine lv_aload_n hx hb dL_law_779 rfl (lv_at hl 1 rfl) ?_
  refine ow_Si (As := [.ref at_]) (rest := []) ⟨hx, hb, hml, hown, hts⟩ (oL_restore l hst D y H.size at_ V  hO) (vx_cwSW 1 hts gL_law_L_restore rfl rfl rfl (by decide +kernel) ⟨(Nat.le_of_ble_eq_true rfl), (Nat.le_of_ble_eq_true rfl)⟩) hK hP hD hS hA hZ hN hJ rfl hl.1 rfl (Nat.le_of_ble_eq_true rfl) dL_law_780 ⟨by show C + 1 ≤ 739810; omega, by show S + 6 ≤ 6872417; omega⟩ (fun r9 V H locs h9 hP hD hS => ?_)
  obtain ⟨q2, he, rfl, -, hO⟩ := h9.resolve_right (fun z => nomatch z.1)
  obtain rfl := Option.some.inj he
  refine lv_iload hx hb dL_law_783 (lv_at hl 3 rfl) ?_
  refine lv_icmp_ne (tgt := 829) hx hb dL_law_785 (by decide) (fun h9 => absurd (rfl) h9) (fun _ => ?_)
  refine lv_aload_n hx hb dL_law_788 rfl (lv_at hl 1 rfl) ?_
  refine ow_Si (As := [.ref at_]) (rest := []) ⟨hx, hb, hml, hown, hts⟩ (oL_undo l hst D y H.size at_ V  hO) (vx_cwSW 1 hts gL_law_L_undo rfl rfl rfl (by decide +kernel) ⟨(Nat.le_of_ble_eq_true rfl), (Nat.le_of_ble_eq_true rfl)⟩) hK hP hD hS hA hZ hN hJ rfl hl.1 rfl (Nat.le_of_ble_eq_true rfl) dL_law_789 ⟨by show C + 1 + 1 ≤ 739810; omega, by show S + 6 + 6 ≤ 6872417; omega⟩ (fun r9 V H locs h9 hP hD hS => ?_)
  obtain ⟨-, rfl, hO⟩ := h9.resolve_left (fun z => by obtain ⟨q2, vs, z, -⟩ := z; exact nomatch z)
  refine lv_sipush (v := -1001) hx hb dL_law_792 (by decide) ?_
  refine lv_icmp_ne (tgt := 829) hx hb dL_law_795 (by decide) (fun h9 => absurd (rfl) h9) (fun _ => ?_)
  refine lv_aload_n hx hb dL_law_798 rfl (lv_at hl 1 rfl) ?_
  refine ow_Ml (As := [.ref at_]) (rest := []) ⟨hx, hb, hml, hown, hts⟩ (oL_asks l hst D y H.size at_ V hO) (va_cwS 1 hts gL_law_L_asks rfl rfl rfl (by decide +kernel) ⟨(Nat.le_of_ble_eq_true rfl), (Nat.le_of_ble_eq_true rfl)⟩) hK hP hD hS hA hZ hN hJ rfl hl.1 rfl (Nat.le_of_ble_eq_true rfl) dL_law_799 ⟨by show C + 1 + 1 + 2300 ≤ 739810; omega, by show S + 6 + 6 + 12000 ≤ 6872417; omega⟩ (fun r9 V H locs h9 hP hD hS => ?_)
  obtain ⟨rfl, N9, T9, hO⟩ := h9
  refine lv_lload_n hx hb dL_law_802 rfl (lv_at hl 2 rfl) ?_
  refine W.lcmp hx hb dL_law_803 ?_
  refine lv_if_ne (tgt := 829) hx hb dL_law_804 (by decide) (fun h9 => absurd ((lg_cmp_eq _ _).mpr (rfl)) h9) (fun _ => ?_)
  refine lv_aload_n hx hb dL_law_807 rfl (lv_at hl 1 rfl) ?_
  refine ow_Si (As := [.ref at_]) (rest := []) ⟨hx, hb, hml, hown, hts⟩ (oL_restore l hst D y H.size at_ V  hO) (vx_cwSW 1 hts gL_law_L_restore rfl rfl rfl (by decide +kernel) ⟨(Nat.le_of_ble_eq_true rfl), (Nat.le_of_ble_eq_true rfl)⟩) hK hP hD hS hA hZ hN hJ rfl hl.1 rfl (Nat.le_of_ble_eq_true rfl) dL_law_808 ⟨by show C + 1 + 1 + 2300 + 1 ≤ 739810; omega, by show S + 6 + 6 + 12000 + 6 ≤ 6872417; omega⟩ (fun r9 V H locs h9 hP hD hS => ?_)
  obtain ⟨q2, he, rfl, -, hO⟩ := h9.resolve_right (fun z => nomatch z.1)
  obtain rfl := Option.some.inj he
  refine lv_iload hx hb dL_law_811 (lv_at hl 3 rfl) ?_
  refine lv_icmp_ne (tgt := 829) hx hb dL_law_813 (by decide) (fun h9 => absurd (rfl) h9) (fun _ => ?_)
  refine lv_aload_n hx hb dL_law_816 rfl (lv_at hl 1 rfl) ?_
  refine ow_Ml (As := [.ref at_]) (rest := []) ⟨hx, hb, hml, hown, hts⟩ (oL_asks l hst D y H.size at_ V hO) (va_cwS 1 hts gL_law_L_asks rfl rfl rfl (by decide +kernel) ⟨(Nat.le_of_ble_eq_true rfl), (Nat.le_of_ble_eq_true rfl)⟩) hK hP hD hS hA hZ hN hJ rfl hl.1 rfl (Nat.le_of_ble_eq_true rfl) dL_law_817 ⟨by show C + 1 + 1 + 2300 + 1 + 2300 ≤ 739810; omega, by show S + 6 + 6 + 12000 + 6 + 12000 ≤ 6872417; omega⟩ (fun r9 V H locs h9 hP hD hS => ?_)
  obtain ⟨rfl, N9, T9, hO⟩ := h9
  refine lv_lload_n hx hb dL_law_820 rfl (lv_at hl 2 rfl) ?_
  refine W.lcmp hx hb dL_law_821 ?_
  refine lv_if_ne (tgt := 829) hx hb dL_law_822 (by decide) (fun h9 => absurd ((lg_cmp_eq _ _).mpr (rfl)) h9) (fun _ => ?_)
  refine lv_iconst (v := 1) hx hb dL_law_825 (by decide) ?_
  refine lv_goto (tgt := 830) hx hb dL_law_826 (by decide) ?_
  exact k0 _ _ (by omega) (by omega) H locs hS ls
