/-! refused -/
theorem iL_refused_J0 : ∀ w ∈ u_ws RJ0 TJ0 4, w ∈ wsL_refused := fun w h => List.mem_cons_of_mem _ (List.mem_append_left _ (List.mem_append_left _ (List.mem_append_left _ (List.mem_append_left _ (List.mem_append_left _ (List.mem_append_left _ (List.mem_append_left _ (List.mem_append_right _ h))))))))
theorem iL_refused_J4 : ∀ w ∈ u_ws RJ4 TJ4 4, w ∈ wsL_refused := fun w h => List.mem_cons_of_mem _ (List.mem_append_left _ (List.mem_append_left _ (List.mem_append_left _ (List.mem_append_left _ (List.mem_append_left _ (List.mem_append_left _ (List.mem_append_left _ (List.mem_append_left _ (List.mem_append_left _ (List.mem_append_left _ (List.mem_append_left _ (List.mem_append_left _ (List.mem_append_left _ (List.mem_append_left _ (List.mem_append_left _ (List.mem_append_left _ (List.mem_append_left _ (List.mem_append_left _ (List.mem_append_right _ h)))))))))))))))))))
set_option maxHeartbeats 4000000 in
set_option maxRecDepth 100000 in
theorem rf_1 {p : Program} {l : Launch} {e : Env} {s : State} {mi : MethodId} {args : Array Value} {below : List Frame} {meth : Method} {c : Code} {D : va_G} {y : Nat → ClassId} {A : Nat → Prop} {Q : State → Prop} {at_ : Nat}{q : Lad} {us : List Lad} {sv : Option Lad} {rs dt ix lf : Int32} {tx : Nat → Int32} (hst : l.stackTraces = false) (C0 : mC p l c mi s args D y A cL_refused 7 wsL_refused) (n k w9 : Nat) (hc : q.1 = nI n) (h0 : 0 < n) (hn24 : n ≤ 24) (hk9 : k ≤ 999) (hk0 : q.2.2.1 0 = nI k) (hpw : pw n q.2.2.1 (nI k) = some 0) (hw9 : w9 ≤ 99) (hw0 : q.2.2.2.1 0 = nI w9) (k0 : mW p l e (rmx 17 560 5200 28000) s mi args below meth c D y A at_ q us sv 1 0 0 lf 0 tx (anyT) [] Q 7 229 [(0, .ref at_), (1, .long (askV q)), (3, .int (nI n)), (4, .int (nI k)), (5, .int ((1 : Int32)))] (2400) (12500)) : mW p l e (rmx 17 560 5200 28000) s mi args below meth c D y A at_ q us sv rs dt ix lf 0 tx (anyT) [] Q 7 0 [(0, .ref at_)] (0) (0) := by
  obtain ⟨hx, hb, hml, hown, hts, hK, hA, hZ, hN, hJ, -⟩ := C0
  intro C S hC hS9 V NN TT hPT hO H locs hP hD hS ls hl
  have hin : inR 0 999 (nI k) = true := nI_inR (lo := 0) (hi := 999) (by omega) (by omega) (by omega)
  refine lv_aload_n hx hb dL_refused_0 rfl (lv_at hl 0 rfl) ?_
  refine ow_Ml (As := [.ref at_]) (rest := []) ⟨hx, hb, hml, hown, hts⟩ (oL_asks l hst D y H.size at_ V hO) (va_cwS 1 hts gL_refused_L_asks rfl rfl rfl (by decide +kernel) ⟨(Nat.le_of_ble_eq_true rfl), (Nat.le_of_ble_eq_true rfl)⟩) hK hP hD hS hA hZ hN hJ rfl hl.1 rfl (Nat.le_of_ble_eq_true rfl) dL_refused_1 ⟨by show C + 2300 ≤ 5200; omega, by show S + 12000 ≤ 28000; omega⟩ (fun r9 V H locs h9 hP hD hS => ?_)
  obtain ⟨rfl, N9, T9, hO⟩ := h9
  refine lv_lstore_n (lv' := [(1, .long (askV q)), (0, .ref at_)]) hx hb dL_refused_4 rfl hl (by decide) rfl (fun ls hl => ?_)
  refine lv_aload_n hx hb dL_refused_5 rfl (lv_at hl 1 rfl) ?_
  refine lv_iconst (v := 0) hx hb dL_refused_6 (by decide) ?_
  refine ow_Si (As := [.ref at_, .int ((0 : Int32))]) (rest := []) ⟨hx, hb, hml, hown, hts⟩ (oL_account l hst D y H.size at_ V ((0 : Int32)) hO) (vx_cwSW 2 hts gL_refused_L_account rfl rfl rfl (by decide +kernel) ⟨(Nat.le_of_ble_eq_true rfl), (Nat.le_of_ble_eq_true rfl)⟩) hK hP hD hS hA hZ hN hJ rfl hl.1 rfl (Nat.le_of_ble_eq_true rfl) dL_refused_7 ⟨by show C + 2300 + 1 ≤ 5200; omega, by show S + 12000 + 6 ≤ 28000; omega⟩ (fun r9 V H locs h9 hP hD hS => ?_)
  obtain ⟨rfl, hO⟩ := h9
  refine s1_is (z := nI n) (acc_0.trans hc) ?_
  refine lv_istore_n (lv' := [(3, .int (nI n)), (1, .long (askV q)), (0, .ref at_)]) hx hb dL_refused_10 rfl hl (by decide) rfl (fun ls hl => ?_)
  refine lv_aload_n hx hb dL_refused_11 rfl (lv_at hl 2 rfl) ?_
  refine lv_iconst (v := 0) hx hb dL_refused_12 (by decide) ?_
  refine s1_is (z := nI 0) (rfl) ?_
  refine ow_Si (As := [.ref at_, .int (nI 0)]) (rest := []) ⟨hx, hb, hml, hown, hts⟩ (oL_keyAt l hst D y H.size at_ V (nI 0) hO) (vx_cwSW 2 hts gL_refused_L_keyAt rfl rfl rfl (by decide +kernel) ⟨(Nat.le_of_ble_eq_true rfl), (Nat.le_of_ble_eq_true rfl)⟩) hK hP hD hS hA hZ hN hJ rfl hl.1 rfl (Nat.le_of_ble_eq_true rfl) dL_refused_13 ⟨by show C + 2300 + 1 + 1 ≤ 5200; omega, by show S + 12000 + 6 + 6 ≤ 28000; omega⟩ (fun r9 V H locs h9 hP hD hS => ?_)
  obtain ⟨rfl, hO⟩ := h9
  refine s1_is (z := nI k) ((z_key hn24 hc h0).trans hk0) ?_
  refine lv_istore (lv' := [(4, .int (nI k)), (3, .int (nI n)), (1, .long (askV q)), (0, .ref at_)]) hx hb dL_refused_16 hl (by decide) rfl (fun ls hl => ?_)
  refine lv_aload_n hx hb dL_refused_18 rfl (lv_at hl 3 rfl) ?_
  refine lv_aload_n hx hb dL_refused_19 rfl (lv_at hl 3 rfl) ?_
  refine lv_iconst (v := -1) hx hb dL_refused_20 (by decide) ?_
  refine lv_iconst (v := 0) hx hb dL_refused_21 (by decide) ?_
  refine ow_Si (As := [.ref at_, .int ((-1 : Int32)), .int ((0 : Int32))]) (rest := [.ref at_]) ⟨hx, hb, hml, hown, hts⟩ (oL_file l hst D y H.size at_ V ((-1 : Int32)) ((0 : Int32)) hO) (vx_cwSW 3 hts gL_refused_L_file rfl rfl rfl (by decide +kernel) ⟨(Nat.le_of_ble_eq_true rfl), (Nat.le_of_ble_eq_true rfl)⟩) hK hP hD hS hA hZ hN hJ rfl hl.1 rfl (Nat.le_of_ble_eq_true rfl) dL_refused_22 ⟨by show C + 2300 + 1 + 1 + 1 ≤ 5200; omega, by show S + 12000 + 6 + 6 + 6 ≤ 28000; omega⟩ (fun r9 V H locs h9 hP hD hS => ?_)
  have HR : ordR q 43 ((-1 : Int32)) ((0 : Int32)) 1 = (1, 0) := R_fil_range hn24 hc (by decide) (fun z => absurd z.1 (by decide))
  obtain ⟨-, rfl, hO⟩ := h9.resolve_left (fun z => absurd z.1 (by rw [HR]; show ¬ (1 : Int32) = 0; decide))
  have hO := Ob_rd HR hO
  refine ow_Mi (As := [.ref at_, .int ((-1001 : Int32))]) (rest := []) ⟨hx, hb, hml, hown, hts⟩ (oL_isRange l hst D y H.size at_ V (-1001) hO) (va_cwS 2 hts gL_refused_L_isRange rfl rfl rfl (by decide +kernel) ⟨(Nat.le_of_ble_eq_true rfl), (Nat.le_of_ble_eq_true rfl)⟩) hK hP hD hS hA hZ hN hJ rfl hl.1 rfl (Nat.le_of_ble_eq_true rfl) dL_refused_25 ⟨by show C + 2300 + 1 + 1 + 1 + 3 ≤ 5200; omega, by show S + 12000 + 6 + 6 + 6 + 18 ≤ 28000; omega⟩ (fun r9 V H locs h9 hP hD hS => ?_)
  obtain ⟨rfl, hO⟩ := h9
  refine s1_is (z := 1) isRg_1 ?_
  refine lv_if_eq (tgt := 226) hx hb dL_refused_28 (by decide) (fun h9 => absurd h9 (by decide)) (fun _ => ?_)
  refine lv_aload_n hx hb dL_refused_31 rfl (lv_at hl 3 rfl) ?_
  refine lv_aload_n hx hb dL_refused_32 rfl (lv_at hl 3 rfl) ?_
  refine lv_sipush (v := 1000) hx hb dL_refused_33 (by decide) ?_
  refine lv_iconst (v := 0) hx hb dL_refused_36 (by decide) ?_
  refine ow_Si (As := [.ref at_, .int ((1000 : Int32)), .int ((0 : Int32))]) (rest := [.ref at_]) ⟨hx, hb, hml, hown, hts⟩ (oL_file l hst D y H.size at_ V ((1000 : Int32)) ((0 : Int32)) hO) (vx_cwSW 3 hts gL_refused_L_file rfl rfl rfl (by decide +kernel) ⟨(Nat.le_of_ble_eq_true rfl), (Nat.le_of_ble_eq_true rfl)⟩) hK hP hD hS hA hZ hN hJ rfl hl.1 rfl (Nat.le_of_ble_eq_true rfl) dL_refused_37 ⟨by show C + 2300 + 1 + 1 + 1 + 3 + 1 ≤ 5200; omega, by show S + 12000 + 6 + 6 + 6 + 18 + 6 ≤ 28000; omega⟩ (fun r9 V H locs h9 hP hD hS => ?_)
  have HR : ordR q 43 ((1000 : Int32)) ((0 : Int32)) 1 = (1, 0) := R_fil_range hn24 hc (by decide) (fun z => absurd z.1 (by decide))
  obtain ⟨-, rfl, hO⟩ := h9.resolve_left (fun z => absurd z.1 (by rw [HR]; show ¬ (1 : Int32) = 0; decide))
  have hO := Ob_rd HR hO
  refine ow_Mi (As := [.ref at_, .int ((-1001 : Int32))]) (rest := []) ⟨hx, hb, hml, hown, hts⟩ (oL_isRange l hst D y H.size at_ V (-1001) hO) (va_cwS 2 hts gL_refused_L_isRange rfl rfl rfl (by decide +kernel) ⟨(Nat.le_of_ble_eq_true rfl), (Nat.le_of_ble_eq_true rfl)⟩) hK hP hD hS hA hZ hN hJ rfl hl.1 rfl (Nat.le_of_ble_eq_true rfl) dL_refused_40 ⟨by show C + 2300 + 1 + 1 + 1 + 3 + 1 + 3 ≤ 5200; omega, by show S + 12000 + 6 + 6 + 6 + 18 + 6 + 18 ≤ 28000; omega⟩ (fun r9 V H locs h9 hP hD hS => ?_)
  obtain ⟨rfl, hO⟩ := h9
  refine s1_is (z := 1) isRg_1 ?_
  refine lv_if_eq (tgt := 226) hx hb dL_refused_43 (by decide) (fun h9 => absurd h9 (by decide)) (fun _ => ?_)
  refine lv_aload_n hx hb dL_refused_46 rfl (lv_at hl 3 rfl) ?_
  refine lv_aload_n hx hb dL_refused_47 rfl (lv_at hl 3 rfl) ?_
  refine lv_iload hx hb dL_refused_48 (lv_at hl 0 rfl) ?_
  refine lv_bipush (v := 100) hx hb dL_refused_50 (by decide) ?_
  refine ow_Si (As := [.ref at_, .int (nI k), .int ((100 : Int32))]) (rest := [.ref at_]) ⟨hx, hb, hml, hown, hts⟩ (oL_file l hst D y H.size at_ V (nI k) ((100 : Int32)) hO) (vx_cwSW 3 hts gL_refused_L_file rfl rfl rfl (by decide +kernel) ⟨(Nat.le_of_ble_eq_true rfl), (Nat.le_of_ble_eq_true rfl)⟩) hK hP hD hS hA hZ hN hJ rfl hl.1 rfl (Nat.le_of_ble_eq_true rfl) dL_refused_52 ⟨by show C + 2300 + 1 + 1 + 1 + 3 + 1 + 3 + 1 ≤ 5200; omega, by show S + 12000 + 6 + 6 + 6 + 18 + 6 + 18 + 6 ≤ 28000; omega⟩ (fun r9 V H locs h9 hP hD hS => ?_)
  have HR : ordR q 43 (nI k) ((100 : Int32)) 1 = (1, 0) := R_fil_range hn24 hc (by decide) (fun z => absurd z.2.1 (by decide))
  obtain ⟨-, rfl, hO⟩ := h9.resolve_left (fun z => absurd z.1 (by rw [HR]; show ¬ (1 : Int32) = 0; decide))
  have hO := Ob_rd HR hO
  refine ow_Mi (As := [.ref at_, .int ((-1001 : Int32))]) (rest := []) ⟨hx, hb, hml, hown, hts⟩ (oL_isRange l hst D y H.size at_ V (-1001) hO) (va_cwS 2 hts gL_refused_L_isRange rfl rfl rfl (by decide +kernel) ⟨(Nat.le_of_ble_eq_true rfl), (Nat.le_of_ble_eq_true rfl)⟩) hK hP hD hS hA hZ hN hJ rfl hl.1 rfl (Nat.le_of_ble_eq_true rfl) dL_refused_55 ⟨by show C + 2300 + 1 + 1 + 1 + 3 + 1 + 3 + 1 + 3 ≤ 5200; omega, by show S + 12000 + 6 + 6 + 6 + 18 + 6 + 18 + 6 + 18 ≤ 28000; omega⟩ (fun r9 V H locs h9 hP hD hS => ?_)
  obtain ⟨rfl, hO⟩ := h9
  refine s1_is (z := 1) isRg_1 ?_
  refine lv_if_eq (tgt := 226) hx hb dL_refused_58 (by decide) (fun h9 => absurd h9 (by decide)) (fun _ => ?_)
  refine lv_aload_n hx hb dL_refused_61 rfl (lv_at hl 3 rfl) ?_
  refine lv_aload_n hx hb dL_refused_62 rfl (lv_at hl 3 rfl) ?_
  refine lv_iload hx hb dL_refused_63 (lv_at hl 0 rfl) ?_
  refine lv_iconst (v := -1) hx hb dL_refused_65 (by decide) ?_
  refine ow_Si (As := [.ref at_, .int (nI k), .int ((-1 : Int32))]) (rest := [.ref at_]) ⟨hx, hb, hml, hown, hts⟩ (oL_file l hst D y H.size at_ V (nI k) ((-1 : Int32)) hO) (vx_cwSW 3 hts gL_refused_L_file rfl rfl rfl (by decide +kernel) ⟨(Nat.le_of_ble_eq_true rfl), (Nat.le_of_ble_eq_true rfl)⟩) hK hP hD hS hA hZ hN hJ rfl hl.1 rfl (Nat.le_of_ble_eq_true rfl) dL_refused_66 ⟨by show C + 2300 + 1 + 1 + 1 + 3 + 1 + 3 + 1 + 3 + 1 ≤ 5200; omega, by show S + 12000 + 6 + 6 + 6 + 18 + 6 + 18 + 6 + 18 + 6 ≤ 28000; omega⟩ (fun r9 V H locs h9 hP hD hS => ?_)
  have HR : ordR q 43 (nI k) ((-1 : Int32)) 1 = (1, 0) := R_fil_range hn24 hc (by decide) (fun z => absurd z.2.1 (by decide))
  obtain ⟨-, rfl, hO⟩ := h9.resolve_left (fun z => absurd z.1 (by rw [HR]; show ¬ (1 : Int32) = 0; decide))
  have hO := Ob_rd HR hO
  refine ow_Mi (As := [.ref at_, .int ((-1001 : Int32))]) (rest := []) ⟨hx, hb, hml, hown, hts⟩ (oL_isRange l hst D y H.size at_ V (-1001) hO) (va_cwS 2 hts gL_refused_L_isRange rfl rfl rfl (by decide +kernel) ⟨(Nat.le_of_ble_eq_true rfl), (Nat.le_of_ble_eq_true rfl)⟩) hK hP hD hS hA hZ hN hJ rfl hl.1 rfl (Nat.le_of_ble_eq_true rfl) dL_refused_69 ⟨by show C + 2300 + 1 + 1 + 1 + 3 + 1 + 3 + 1 + 3 + 1 + 3 ≤ 5200; omega, by show S + 12000 + 6 + 6 + 6 + 18 + 6 + 18 + 6 + 18 + 6 + 18 ≤ 28000; omega⟩ (fun r9 V H locs h9 hP hD hS => ?_)
  obtain ⟨rfl, hO⟩ := h9
  refine s1_is (z := 1) isRg_1 ?_
  refine lv_if_eq (tgt := 226) hx hb dL_refused_72 (by decide) (fun h9 => absurd h9 (by decide)) (fun _ => ?_)
  refine lv_aload_n hx hb dL_refused_75 rfl (lv_at hl 3 rfl) ?_
  refine lv_aload_n hx hb dL_refused_76 rfl (lv_at hl 3 rfl) ?_
  refine lv_iload hx hb dL_refused_77 (lv_at hl 0 rfl) ?_
  refine lv_iconst (v := 0) hx hb dL_refused_79 (by decide) ?_
  refine lv_iconst (v := 0) hx hb dL_refused_80 (by decide) ?_
  refine ow_Si (As := [.ref at_, .int (nI k), .int ((0 : Int32)), .int ((0 : Int32))]) (rest := [.ref at_]) ⟨hx, hb, hml, hown, hts⟩ (oL_fileTall l hst D y H.size at_ V (nI k) ((0 : Int32)) ((0 : Int32)) hO) (vx_cwSW 4 hts gL_refused_L_fileTall rfl rfl rfl (by decide +kernel) ⟨(Nat.le_of_ble_eq_true rfl), (Nat.le_of_ble_eq_true rfl)⟩) hK hP hD hS hA hZ hN hJ rfl hl.1 rfl (Nat.le_of_ble_eq_true rfl) dL_refused_81 ⟨by show C + 2300 + 1 + 1 + 1 + 3 + 1 + 3 + 1 + 3 + 1 + 3 + 1 ≤ 5200; omega, by show S + 12000 + 6 + 6 + 6 + 18 + 6 + 18 + 6 + 18 + 6 + 18 + 6 ≤ 28000; omega⟩ (fun r9 V H locs h9 hP hD hS => ?_)
  have HR : ordR q 94 (nI k) ((0 : Int32)) ((0 : Int32)) = (1, 0) := R_fil_range hn24 hc (by decide) (fun z => absurd z.2.2 (by decide))
  obtain ⟨-, rfl, hO⟩ := h9.resolve_left (fun z => absurd z.1 (by rw [HR]; show ¬ (1 : Int32) = 0; decide))
  have hO := Ob_rd HR hO
  refine ow_Mi (As := [.ref at_, .int ((-1001 : Int32))]) (rest := []) ⟨hx, hb, hml, hown, hts⟩ (oL_isRange l hst D y H.size at_ V (-1001) hO) (va_cwS 2 hts gL_refused_L_isRange rfl rfl rfl (by decide +kernel) ⟨(Nat.le_of_ble_eq_true rfl), (Nat.le_of_ble_eq_true rfl)⟩) hK hP hD hS hA hZ hN hJ rfl hl.1 rfl (Nat.le_of_ble_eq_true rfl) dL_refused_84 ⟨by show C + 2300 + 1 + 1 + 1 + 3 + 1 + 3 + 1 + 3 + 1 + 3 + 1 + 3 ≤ 5200; omega, by show S + 12000 + 6 + 6 + 6 + 18 + 6 + 18 + 6 + 18 + 6 + 18 + 6 + 18 ≤ 28000; omega⟩ (fun r9 V H locs h9 hP hD hS => ?_)
  obtain ⟨rfl, hO⟩ := h9
  refine s1_is (z := 1) isRg_1 ?_
  refine lv_if_eq (tgt := 226) hx hb dL_refused_87 (by decide) (fun h9 => absurd h9 (by decide)) (fun _ => ?_)
  refine lv_aload_n hx hb dL_refused_90 rfl (lv_at hl 3 rfl) ?_
  refine lv_aload_n hx hb dL_refused_91 rfl (lv_at hl 3 rfl) ?_
  refine lv_iload hx hb dL_refused_92 (lv_at hl 0 rfl) ?_
  refine lv_iconst (v := 0) hx hb dL_refused_94 (by decide) ?_
  refine lv_bipush (v := 6) hx hb dL_refused_95 (by decide) ?_
  refine ow_Si (As := [.ref at_, .int (nI k), .int ((0 : Int32)), .int ((6 : Int32))]) (rest := [.ref at_]) ⟨hx, hb, hml, hown, hts⟩ (oL_fileTall l hst D y H.size at_ V (nI k) ((0 : Int32)) ((6 : Int32)) hO) (vx_cwSW 4 hts gL_refused_L_fileTall rfl rfl rfl (by decide +kernel) ⟨(Nat.le_of_ble_eq_true rfl), (Nat.le_of_ble_eq_true rfl)⟩) hK hP hD hS hA hZ hN hJ rfl hl.1 rfl (Nat.le_of_ble_eq_true rfl) dL_refused_97 ⟨by show C + 2300 + 1 + 1 + 1 + 3 + 1 + 3 + 1 + 3 + 1 + 3 + 1 + 3 + 1 ≤ 5200; omega, by show S + 12000 + 6 + 6 + 6 + 18 + 6 + 18 + 6 + 18 + 6 + 18 + 6 + 18 + 6 ≤ 28000; omega⟩ (fun r9 V H locs h9 hP hD hS => ?_)
  have HR : ordR q 94 (nI k) ((0 : Int32)) ((6 : Int32)) = (1, 0) := R_fil_range hn24 hc (by decide) (fun z => absurd z.2.2 (by decide))
  obtain ⟨-, rfl, hO⟩ := h9.resolve_left (fun z => absurd z.1 (by rw [HR]; show ¬ (1 : Int32) = 0; decide))
  have hO := Ob_rd HR hO
  refine ow_Mi (As := [.ref at_, .int ((-1001 : Int32))]) (rest := []) ⟨hx, hb, hml, hown, hts⟩ (oL_isRange l hst D y H.size at_ V (-1001) hO) (va_cwS 2 hts gL_refused_L_isRange rfl rfl rfl (by decide +kernel) ⟨(Nat.le_of_ble_eq_true rfl), (Nat.le_of_ble_eq_true rfl)⟩) hK hP hD hS hA hZ hN hJ rfl hl.1 rfl (Nat.le_of_ble_eq_true rfl) dL_refused_100 ⟨by show C + 2300 + 1 + 1 + 1 + 3 + 1 + 3 + 1 + 3 + 1 + 3 + 1 + 3 + 1 + 3 ≤ 5200; omega, by show S + 12000 + 6 + 6 + 6 + 18 + 6 + 18 + 6 + 18 + 6 + 18 + 6 + 18 + 6 + 18 ≤ 28000; omega⟩ (fun r9 V H locs h9 hP hD hS => ?_)
  obtain ⟨rfl, hO⟩ := h9
  refine s1_is (z := 1) isRg_1 ?_
  refine lv_if_eq (tgt := 226) hx hb dL_refused_103 (by decide) (fun h9 => absurd h9 (by decide)) (fun _ => ?_)
  refine lv_aload_n hx hb dL_refused_106 rfl (lv_at hl 3 rfl) ?_
  refine lv_aload_n hx hb dL_refused_107 rfl (lv_at hl 3 rfl) ?_
  refine lv_sipush (v := 1000) hx hb dL_refused_108 (by decide) ?_
  refine ow_Si (As := [.ref at_, .int ((1000 : Int32))]) (rest := [.ref at_]) ⟨hx, hb, hml, hown, hts⟩ (oL_drop l hst D y H.size at_ V ((1000 : Int32)) hO) (vx_cwSW 2 hts gL_refused_L_drop rfl rfl rfl (by decide +kernel) ⟨(Nat.le_of_ble_eq_true rfl), (Nat.le_of_ble_eq_true rfl)⟩) hK hP hD hS hA hZ hN hJ rfl hl.1 rfl (Nat.le_of_ble_eq_true rfl) dL_refused_111 ⟨by show C + 2300 + 1 + 1 + 1 + 3 + 1 + 3 + 1 + 3 + 1 + 3 + 1 + 3 + 1 + 3 + 1 ≤ 5200; omega, by show S + 12000 + 6 + 6 + 6 + 18 + 6 + 18 + 6 + 18 + 6 + 18 + 6 + 18 + 6 + 18 + 6 ≤ 28000; omega⟩ (fun r9 V H locs h9 hP hD hS => ?_)
  have HR : ordR q 45 ((1000 : Int32)) 0 1 = (1, 0) := R_folder hn24 hc (by decide) (fun z => absurd z.1 (by decide))
  obtain ⟨-, rfl, hO⟩ := h9.resolve_left (fun z => absurd z.1 (by rw [HR]; show ¬ (1 : Int32) = 0; decide))
  have hO := Ob_rd HR hO
  refine ow_Mi (As := [.ref at_, .int ((-1001 : Int32))]) (rest := []) ⟨hx, hb, hml, hown, hts⟩ (oL_isRange l hst D y H.size at_ V (-1001) hO) (va_cwS 2 hts gL_refused_L_isRange rfl rfl rfl (by decide +kernel) ⟨(Nat.le_of_ble_eq_true rfl), (Nat.le_of_ble_eq_true rfl)⟩) hK hP hD hS hA hZ hN hJ rfl hl.1 rfl (Nat.le_of_ble_eq_true rfl) dL_refused_114 ⟨by show C + 2300 + 1 + 1 + 1 + 3 + 1 + 3 + 1 + 3 + 1 + 3 + 1 + 3 + 1 + 3 + 1 + 3 ≤ 5200; omega, by show S + 12000 + 6 + 6 + 6 + 18 + 6 + 18 + 6 + 18 + 6 + 18 + 6 + 18 + 6 + 18 + 6 + 18 ≤ 28000; omega⟩ (fun r9 V H locs h9 hP hD hS => ?_)
  obtain ⟨rfl, hO⟩ := h9
  refine s1_is (z := 1) isRg_1 ?_
  refine lv_if_eq (tgt := 226) hx hb dL_refused_117 (by decide) (fun h9 => absurd h9 (by decide)) (fun _ => ?_)
  refine lv_aload_n hx hb dL_refused_120 rfl (lv_at hl 3 rfl) ?_
  refine lv_aload_n hx hb dL_refused_121 rfl (lv_at hl 3 rfl) ?_
  refine lv_iconst (v := -1) hx hb dL_refused_122 (by decide) ?_
  refine ow_Si (As := [.ref at_, .int ((-1 : Int32))]) (rest := [.ref at_]) ⟨hx, hb, hml, hown, hts⟩ (oL_raise l hst D y H.size at_ V ((-1 : Int32)) hO) (vx_cwSW 2 hts gL_refused_L_raise rfl rfl rfl (by decide +kernel) ⟨(Nat.le_of_ble_eq_true rfl), (Nat.le_of_ble_eq_true rfl)⟩) hK hP hD hS hA hZ hN hJ rfl hl.1 rfl (Nat.le_of_ble_eq_true rfl) dL_refused_123 ⟨by show C + 2300 + 1 + 1 + 1 + 3 + 1 + 3 + 1 + 3 + 1 + 3 + 1 + 3 + 1 + 3 + 1 + 3 + 1 ≤ 5200; omega, by show S + 12000 + 6 + 6 + 6 + 18 + 6 + 18 + 6 + 18 + 6 + 18 + 6 + 18 + 6 + 18 + 6 + 18 + 6 ≤ 28000; omega⟩ (fun r9 V H locs h9 hP hD hS => ?_)
  have HR : ordR q 117 ((-1 : Int32)) 0 1 = (1, 0) := R_folder hn24 hc (by decide) (fun z => absurd z.1 (by decide))
  obtain ⟨-, rfl, hO⟩ := h9.resolve_left (fun z => absurd z.1 (by rw [HR]; show ¬ (1 : Int32) = 0; decide))
  have hO := Ob_rd HR hO
  refine ow_Mi (As := [.ref at_, .int ((-1001 : Int32))]) (rest := []) ⟨hx, hb, hml, hown, hts⟩ (oL_isRange l hst D y H.size at_ V (-1001) hO) (va_cwS 2 hts gL_refused_L_isRange rfl rfl rfl (by decide +kernel) ⟨(Nat.le_of_ble_eq_true rfl), (Nat.le_of_ble_eq_true rfl)⟩) hK hP hD hS hA hZ hN hJ rfl hl.1 rfl (Nat.le_of_ble_eq_true rfl) dL_refused_126 ⟨by show C + 2300 + 1 + 1 + 1 + 3 + 1 + 3 + 1 + 3 + 1 + 3 + 1 + 3 + 1 + 3 + 1 + 3 + 1 + 3 ≤ 5200; omega, by show S + 12000 + 6 + 6 + 6 + 18 + 6 + 18 + 6 + 18 + 6 + 18 + 6 + 18 + 6 + 18 + 6 + 18 + 6 + 18 ≤ 28000; omega⟩ (fun r9 V H locs h9 hP hD hS => ?_)
  obtain ⟨rfl, hO⟩ := h9
  refine s1_is (z := 1) isRg_1 ?_
  refine lv_if_eq (tgt := 226) hx hb dL_refused_129 (by decide) (fun h9 => absurd h9 (by decide)) (fun _ => ?_)
  refine lv_aload_n hx hb dL_refused_132 rfl (lv_at hl 3 rfl) ?_
  refine lv_aload_n hx hb dL_refused_133 rfl (lv_at hl 3 rfl) ?_
  refine lv_sipush (v := 1000) hx hb dL_refused_134 (by decide) ?_
  refine ow_Si (As := [.ref at_, .int ((1000 : Int32))]) (rest := [.ref at_]) ⟨hx, hb, hml, hown, hts⟩ (oL_lower l hst D y H.size at_ V ((1000 : Int32)) hO) (vx_cwSW 2 hts gL_refused_L_lower rfl rfl rfl (by decide +kernel) ⟨(Nat.le_of_ble_eq_true rfl), (Nat.le_of_ble_eq_true rfl)⟩) hK hP hD hS hA hZ hN hJ rfl hl.1 rfl (Nat.le_of_ble_eq_true rfl) dL_refused_137 ⟨by show C + 2300 + 1 + 1 + 1 + 3 + 1 + 3 + 1 + 3 + 1 + 3 + 1 + 3 + 1 + 3 + 1 + 3 + 1 + 3 + 1 ≤ 5200; omega, by show S + 12000 + 6 + 6 + 6 + 18 + 6 + 18 + 6 + 18 + 6 + 18 + 6 + 18 + 6 + 18 + 6 + 18 + 6 + 18 + 6 ≤ 28000; omega⟩ (fun r9 V H locs h9 hP hD hS => ?_)
  have HR : ordR q 100 ((1000 : Int32)) 0 1 = (1, 0) := R_folder hn24 hc (by decide) (fun z => absurd z.1 (by decide))
  obtain ⟨-, rfl, hO⟩ := h9.resolve_left (fun z => absurd z.1 (by rw [HR]; show ¬ (1 : Int32) = 0; decide))
  have hO := Ob_rd HR hO
  refine ow_Mi (As := [.ref at_, .int ((-1001 : Int32))]) (rest := []) ⟨hx, hb, hml, hown, hts⟩ (oL_isRange l hst D y H.size at_ V (-1001) hO) (va_cwS 2 hts gL_refused_L_isRange rfl rfl rfl (by decide +kernel) ⟨(Nat.le_of_ble_eq_true rfl), (Nat.le_of_ble_eq_true rfl)⟩) hK hP hD hS hA hZ hN hJ rfl hl.1 rfl (Nat.le_of_ble_eq_true rfl) dL_refused_140 ⟨by show C + 2300 + 1 + 1 + 1 + 3 + 1 + 3 + 1 + 3 + 1 + 3 + 1 + 3 + 1 + 3 + 1 + 3 + 1 + 3 + 1 + 3 ≤ 5200; omega, by show S + 12000 + 6 + 6 + 6 + 18 + 6 + 18 + 6 + 18 + 6 + 18 + 6 + 18 + 6 + 18 + 6 + 18 + 6 + 18 + 6 + 18 ≤ 28000; omega⟩ (fun r9 V H locs h9 hP hD hS => ?_)
  obtain ⟨rfl, hO⟩ := h9
  refine s1_is (z := 1) isRg_1 ?_
  refine lv_if_eq (tgt := 226) hx hb dL_refused_143 (by decide) (fun h9 => absurd h9 (by decide)) (fun _ => ?_)
  refine lv_aload_n hx hb dL_refused_146 rfl (lv_at hl 3 rfl) ?_
  refine lv_aload_n hx hb dL_refused_147 rfl (lv_at hl 3 rfl) ?_
  refine lv_iconst (v := 0) hx hb dL_refused_148 (by decide) ?_
  refine ow_Si (As := [.ref at_, .int ((0 : Int32))]) (rest := [.ref at_]) ⟨hx, hb, hml, hown, hts⟩ (oL_forget l hst D y H.size at_ V ((0 : Int32)) hO) (vx_cwSW 2 hts gL_refused_L_forget rfl rfl rfl (by decide +kernel) ⟨(Nat.le_of_ble_eq_true rfl), (Nat.le_of_ble_eq_true rfl)⟩) hK hP hD hS hA hZ hN hJ rfl hl.1 rfl (Nat.le_of_ble_eq_true rfl) dL_refused_149 ⟨by show C + 2300 + 1 + 1 + 1 + 3 + 1 + 3 + 1 + 3 + 1 + 3 + 1 + 3 + 1 + 3 + 1 + 3 + 1 + 3 + 1 + 3 + 1 ≤ 5200; omega, by show S + 12000 + 6 + 6 + 6 + 18 + 6 + 18 + 6 + 18 + 6 + 18 + 6 + 18 + 6 + 18 + 6 + 18 + 6 + 18 + 6 + 18 + 6 ≤ 28000; omega⟩ (fun r9 V H locs h9 hP hD hS => ?_)
  have HR : ordR q 102 ((0 : Int32)) 0 1 = (1, 0) := R_level hc (by decide) (by decide)
  obtain ⟨-, rfl, hO⟩ := h9.resolve_left (fun z => absurd z.1 (by rw [HR]; show ¬ (1 : Int32) = 0; decide))
  have hO := Ob_rd HR hO
  refine ow_Mi (As := [.ref at_, .int ((-1001 : Int32))]) (rest := []) ⟨hx, hb, hml, hown, hts⟩ (oL_isRange l hst D y H.size at_ V (-1001) hO) (va_cwS 2 hts gL_refused_L_isRange rfl rfl rfl (by decide +kernel) ⟨(Nat.le_of_ble_eq_true rfl), (Nat.le_of_ble_eq_true rfl)⟩) hK hP hD hS hA hZ hN hJ rfl hl.1 rfl (Nat.le_of_ble_eq_true rfl) dL_refused_152 ⟨by show C + 2300 + 1 + 1 + 1 + 3 + 1 + 3 + 1 + 3 + 1 + 3 + 1 + 3 + 1 + 3 + 1 + 3 + 1 + 3 + 1 + 3 + 1 + 3 ≤ 5200; omega, by show S + 12000 + 6 + 6 + 6 + 18 + 6 + 18 + 6 + 18 + 6 + 18 + 6 + 18 + 6 + 18 + 6 + 18 + 6 + 18 + 6 + 18 + 6 + 18 ≤ 28000; omega⟩ (fun r9 V H locs h9 hP hD hS => ?_)
  obtain ⟨rfl, hO⟩ := h9
  refine s1_is (z := 1) isRg_1 ?_
  refine lv_if_eq (tgt := 226) hx hb dL_refused_155 (by decide) (fun h9 => absurd h9 (by decide)) (fun _ => ?_)
  refine lv_aload_n hx hb dL_refused_158 rfl (lv_at hl 3 rfl) ?_
  refine lv_aload_n hx hb dL_refused_159 rfl (lv_at hl 3 rfl) ?_
  refine lv_iconst (v := 5) hx hb dL_refused_160 (by decide) ?_
  refine ow_Si (As := [.ref at_, .int ((5 : Int32))]) (rest := [.ref at_]) ⟨hx, hb, hml, hown, hts⟩ (oL_forget l hst D y H.size at_ V ((5 : Int32)) hO) (vx_cwSW 2 hts gL_refused_L_forget rfl rfl rfl (by decide +kernel) ⟨(Nat.le_of_ble_eq_true rfl), (Nat.le_of_ble_eq_true rfl)⟩) hK hP hD hS hA hZ hN hJ rfl hl.1 rfl (Nat.le_of_ble_eq_true rfl) dL_refused_161 ⟨by show C + 2300 + 1 + 1 + 1 + 3 + 1 + 3 + 1 + 3 + 1 + 3 + 1 + 3 + 1 + 3 + 1 + 3 + 1 + 3 + 1 + 3 + 1 + 3 + 1 ≤ 5200; omega, by show S + 12000 + 6 + 6 + 6 + 18 + 6 + 18 + 6 + 18 + 6 + 18 + 6 + 18 + 6 + 18 + 6 + 18 + 6 + 18 + 6 + 18 + 6 + 18 + 6 ≤ 28000; omega⟩ (fun r9 V H locs h9 hP hD hS => ?_)
  have HR : ordR q 102 ((5 : Int32)) 0 1 = (1, 0) := R_level hc (by decide) (by decide)
  obtain ⟨-, rfl, hO⟩ := h9.resolve_left (fun z => absurd z.1 (by rw [HR]; show ¬ (1 : Int32) = 0; decide))
  have hO := Ob_rd HR hO
  refine ow_Mi (As := [.ref at_, .int ((-1001 : Int32))]) (rest := []) ⟨hx, hb, hml, hown, hts⟩ (oL_isRange l hst D y H.size at_ V (-1001) hO) (va_cwS 2 hts gL_refused_L_isRange rfl rfl rfl (by decide +kernel) ⟨(Nat.le_of_ble_eq_true rfl), (Nat.le_of_ble_eq_true rfl)⟩) hK hP hD hS hA hZ hN hJ rfl hl.1 rfl (Nat.le_of_ble_eq_true rfl) dL_refused_164 ⟨by show C + 2300 + 1 + 1 + 1 + 3 + 1 + 3 + 1 + 3 + 1 + 3 + 1 + 3 + 1 + 3 + 1 + 3 + 1 + 3 + 1 + 3 + 1 + 3 + 1 + 3 ≤ 5200; omega, by show S + 12000 + 6 + 6 + 6 + 18 + 6 + 18 + 6 + 18 + 6 + 18 + 6 + 18 + 6 + 18 + 6 + 18 + 6 + 18 + 6 + 18 + 6 + 18 + 6 + 18 ≤ 28000; omega⟩ (fun r9 V H locs h9 hP hD hS => ?_)
  obtain ⟨rfl, hO⟩ := h9
  refine s1_is (z := 1) isRg_1 ?_
  refine lv_if_eq (tgt := 226) hx hb dL_refused_167 (by decide) (fun h9 => absurd h9 (by decide)) (fun _ => ?_)
  refine lv_aload_n hx hb dL_refused_170 rfl (lv_at hl 3 rfl) ?_
  refine lv_aload_n hx hb dL_refused_171 rfl (lv_at hl 3 rfl) ?_
  refine lv_iconst (v := 0) hx hb dL_refused_172 (by decide) ?_
  refine ow_Si (As := [.ref at_, .int ((0 : Int32))]) (rest := [.ref at_]) ⟨hx, hb, hml, hown, hts⟩ (oL_recall l hst D y H.size at_ V ((0 : Int32)) hO) (vx_cwSW 2 hts gL_refused_L_recall rfl rfl rfl (by decide +kernel) ⟨(Nat.le_of_ble_eq_true rfl), (Nat.le_of_ble_eq_true rfl)⟩) hK hP hD hS hA hZ hN hJ rfl hl.1 rfl (Nat.le_of_ble_eq_true rfl) dL_refused_173 ⟨by show C + 2300 + 1 + 1 + 1 + 3 + 1 + 3 + 1 + 3 + 1 + 3 + 1 + 3 + 1 + 3 + 1 + 3 + 1 + 3 + 1 + 3 + 1 + 3 + 1 + 3 + 1 ≤ 5200; omega, by show S + 12000 + 6 + 6 + 6 + 18 + 6 + 18 + 6 + 18 + 6 + 18 + 6 + 18 + 6 + 18 + 6 + 18 + 6 + 18 + 6 + 18 + 6 + 18 + 6 + 18 + 6 ≤ 28000; omega⟩ (fun r9 V H locs h9 hP hD hS => ?_)
  have HR : ordR q 114 ((0 : Int32)) 0 1 = (1, 0) := R_level hc (by decide) (by decide)
  obtain ⟨-, rfl, hO⟩ := h9.resolve_left (fun z => absurd z.1 (by rw [HR]; show ¬ (1 : Int32) = 0; decide))
  have hO := Ob_rd HR hO
  refine ow_Mi (As := [.ref at_, .int ((-1001 : Int32))]) (rest := []) ⟨hx, hb, hml, hown, hts⟩ (oL_isRange l hst D y H.size at_ V (-1001) hO) (va_cwS 2 hts gL_refused_L_isRange rfl rfl rfl (by decide +kernel) ⟨(Nat.le_of_ble_eq_true rfl), (Nat.le_of_ble_eq_true rfl)⟩) hK hP hD hS hA hZ hN hJ rfl hl.1 rfl (Nat.le_of_ble_eq_true rfl) dL_refused_176 ⟨by show C + 2300 + 1 + 1 + 1 + 3 + 1 + 3 + 1 + 3 + 1 + 3 + 1 + 3 + 1 + 3 + 1 + 3 + 1 + 3 + 1 + 3 + 1 + 3 + 1 + 3 + 1 + 3 ≤ 5200; omega, by show S + 12000 + 6 + 6 + 6 + 18 + 6 + 18 + 6 + 18 + 6 + 18 + 6 + 18 + 6 + 18 + 6 + 18 + 6 + 18 + 6 + 18 + 6 + 18 + 6 + 18 + 6 + 18 ≤ 28000; omega⟩ (fun r9 V H locs h9 hP hD hS => ?_)
  obtain ⟨rfl, hO⟩ := h9
  refine s1_is (z := 1) isRg_1 ?_
  refine lv_if_eq (tgt := 226) hx hb dL_refused_179 (by decide) (fun h9 => absurd h9 (by decide)) (fun _ => ?_)
  refine lv_aload_n hx hb dL_refused_182 rfl (lv_at hl 3 rfl) ?_
  refine lv_aload_n hx hb dL_refused_183 rfl (lv_at hl 3 rfl) ?_
  refine lv_iconst (v := 5) hx hb dL_refused_184 (by decide) ?_
  refine ow_Si (As := [.ref at_, .int ((5 : Int32))]) (rest := [.ref at_]) ⟨hx, hb, hml, hown, hts⟩ (oL_recall l hst D y H.size at_ V ((5 : Int32)) hO) (vx_cwSW 2 hts gL_refused_L_recall rfl rfl rfl (by decide +kernel) ⟨(Nat.le_of_ble_eq_true rfl), (Nat.le_of_ble_eq_true rfl)⟩) hK hP hD hS hA hZ hN hJ rfl hl.1 rfl (Nat.le_of_ble_eq_true rfl) dL_refused_185 ⟨by show C + 2300 + 1 + 1 + 1 + 3 + 1 + 3 + 1 + 3 + 1 + 3 + 1 + 3 + 1 + 3 + 1 + 3 + 1 + 3 + 1 + 3 + 1 + 3 + 1 + 3 + 1 + 3 + 1 ≤ 5200; omega, by show S + 12000 + 6 + 6 + 6 + 18 + 6 + 18 + 6 + 18 + 6 + 18 + 6 + 18 + 6 + 18 + 6 + 18 + 6 + 18 + 6 + 18 + 6 + 18 + 6 + 18 + 6 + 18 + 6 ≤ 28000; omega⟩ (fun r9 V H locs h9 hP hD hS => ?_)
  have HR : ordR q 114 ((5 : Int32)) 0 1 = (1, 0) := R_level hc (by decide) (by decide)
  obtain ⟨-, rfl, hO⟩ := h9.resolve_left (fun z => absurd z.1 (by rw [HR]; show ¬ (1 : Int32) = 0; decide))
  have hO := Ob_rd HR hO
  refine ow_Mi (As := [.ref at_, .int ((-1001 : Int32))]) (rest := []) ⟨hx, hb, hml, hown, hts⟩ (oL_isRange l hst D y H.size at_ V (-1001) hO) (va_cwS 2 hts gL_refused_L_isRange rfl rfl rfl (by decide +kernel) ⟨(Nat.le_of_ble_eq_true rfl), (Nat.le_of_ble_eq_true rfl)⟩) hK hP hD hS hA hZ hN hJ rfl hl.1 rfl (Nat.le_of_ble_eq_true rfl) dL_refused_188 ⟨by show C + 2300 + 1 + 1 + 1 + 3 + 1 + 3 + 1 + 3 + 1 + 3 + 1 + 3 + 1 + 3 + 1 + 3 + 1 + 3 + 1 + 3 + 1 + 3 + 1 + 3 + 1 + 3 + 1 + 3 ≤ 5200; omega, by show S + 12000 + 6 + 6 + 6 + 18 + 6 + 18 + 6 + 18 + 6 + 18 + 6 + 18 + 6 + 18 + 6 + 18 + 6 + 18 + 6 + 18 + 6 + 18 + 6 + 18 + 6 + 18 + 6 + 18 ≤ 28000; omega⟩ (fun r9 V H locs h9 hP hD hS => ?_)
  obtain ⟨rfl, hO⟩ := h9
  refine s1_is (z := 1) isRg_1 ?_
  refine lv_if_eq (tgt := 226) hx hb dL_refused_191 (by decide) (fun h9 => absurd h9 (by decide)) (fun _ => ?_)
  refine lv_aload_n hx hb dL_refused_194 rfl (lv_at hl 3 rfl) ?_
  refine lv_aload_n hx hb dL_refused_195 rfl (lv_at hl 3 rfl) ?_
  refine lv_iconst (v := -1) hx hb dL_refused_196 (by decide) ?_
  refine lv_iconst (v := 5) hx hb dL_refused_197 (by decide) ?_
  refine ow_Si (As := [.ref at_, .int ((-1 : Int32)), .int ((5 : Int32))]) (rest := [.ref at_]) ⟨hx, hb, hml, hown, hts⟩ (oL_weigh l hst D y H.size at_ V ((-1 : Int32)) ((5 : Int32)) hO) (vx_cwSW 3 hts gL_refused_L_weigh rfl rfl rfl (by decide +kernel) ⟨(Nat.le_of_ble_eq_true rfl), (Nat.le_of_ble_eq_true rfl)⟩) hK hP hD hS hA hZ hN hJ rfl hl.1 rfl (Nat.le_of_ble_eq_true rfl) dL_refused_198 ⟨by show C + 2300 + 1 + 1 + 1 + 3 + 1 + 3 + 1 + 3 + 1 + 3 + 1 + 3 + 1 + 3 + 1 + 3 + 1 + 3 + 1 + 3 + 1 + 3 + 1 + 3 + 1 + 3 + 1 + 3 + 1 ≤ 5200; omega, by show S + 12000 + 6 + 6 + 6 + 18 + 6 + 18 + 6 + 18 + 6 + 18 + 6 + 18 + 6 + 18 + 6 + 18 + 6 + 18 + 6 + 18 + 6 + 18 + 6 + 18 + 6 + 18 + 6 + 18 + 6 ≤ 28000; omega⟩ (fun r9 V H locs h9 hP hD hS => ?_)
  have HR : ordR q 119 ((-1 : Int32)) ((5 : Int32)) 1 = (1, 0) := R_folder hn24 hc (by decide) (fun z => absurd z.1 (by decide))
  obtain ⟨-, rfl, hO⟩ := h9.resolve_left (fun z => absurd z.1 (by rw [HR]; show ¬ (1 : Int32) = 0; decide))
  have hO := Ob_rd HR hO
  refine ow_Mi (As := [.ref at_, .int ((-1001 : Int32))]) (rest := []) ⟨hx, hb, hml, hown, hts⟩ (oL_isRange l hst D y H.size at_ V (-1001) hO) (va_cwS 2 hts gL_refused_L_isRange rfl rfl rfl (by decide +kernel) ⟨(Nat.le_of_ble_eq_true rfl), (Nat.le_of_ble_eq_true rfl)⟩) hK hP hD hS hA hZ hN hJ rfl hl.1 rfl (Nat.le_of_ble_eq_true rfl) dL_refused_201 ⟨by show C + 2300 + 1 + 1 + 1 + 3 + 1 + 3 + 1 + 3 + 1 + 3 + 1 + 3 + 1 + 3 + 1 + 3 + 1 + 3 + 1 + 3 + 1 + 3 + 1 + 3 + 1 + 3 + 1 + 3 + 1 + 3 ≤ 5200; omega, by show S + 12000 + 6 + 6 + 6 + 18 + 6 + 18 + 6 + 18 + 6 + 18 + 6 + 18 + 6 + 18 + 6 + 18 + 6 + 18 + 6 + 18 + 6 + 18 + 6 + 18 + 6 + 18 + 6 + 18 + 6 + 18 ≤ 28000; omega⟩ (fun r9 V H locs h9 hP hD hS => ?_)
  obtain ⟨rfl, hO⟩ := h9
  refine s1_is (z := 1) isRg_1 ?_
  refine lv_if_eq (tgt := 226) hx hb dL_refused_204 (by decide) (fun h9 => absurd h9 (by decide)) (fun _ => ?_)
  refine lv_aload_n hx hb dL_refused_207 rfl (lv_at hl 3 rfl) ?_
  refine lv_aload_n hx hb dL_refused_208 rfl (lv_at hl 3 rfl) ?_
  refine lv_iload hx hb dL_refused_209 (lv_at hl 0 rfl) ?_
  refine lv_bipush (v := 100) hx hb dL_refused_211 (by decide) ?_
  refine ow_Si (As := [.ref at_, .int (nI k), .int ((100 : Int32))]) (rest := [.ref at_]) ⟨hx, hb, hml, hown, hts⟩ (oL_weigh l hst D y H.size at_ V (nI k) ((100 : Int32)) hO) (vx_cwSW 3 hts gL_refused_L_weigh rfl rfl rfl (by decide +kernel) ⟨(Nat.le_of_ble_eq_true rfl), (Nat.le_of_ble_eq_true rfl)⟩) hK hP hD hS hA hZ hN hJ rfl hl.1 rfl (Nat.le_of_ble_eq_true rfl) dL_refused_213 ⟨by show C + 2300 + 1 + 1 + 1 + 3 + 1 + 3 + 1 + 3 + 1 + 3 + 1 + 3 + 1 + 3 + 1 + 3 + 1 + 3 + 1 + 3 + 1 + 3 + 1 + 3 + 1 + 3 + 1 + 3 + 1 + 3 + 1 ≤ 5200; omega, by show S + 12000 + 6 + 6 + 6 + 18 + 6 + 18 + 6 + 18 + 6 + 18 + 6 + 18 + 6 + 18 + 6 + 18 + 6 + 18 + 6 + 18 + 6 + 18 + 6 + 18 + 6 + 18 + 6 + 18 + 6 + 18 + 6 ≤ 28000; omega⟩ (fun r9 V H locs h9 hP hD hS => ?_)
  have HR : ordR q 119 (nI k) ((100 : Int32)) 1 = (1, 0) := R_folder hn24 hc (by decide) (fun z => absurd z.2 (by decide))
  obtain ⟨-, rfl, hO⟩ := h9.resolve_left (fun z => absurd z.1 (by rw [HR]; show ¬ (1 : Int32) = 0; decide))
  have hO := Ob_rd HR hO
  refine ow_Mi (As := [.ref at_, .int ((-1001 : Int32))]) (rest := []) ⟨hx, hb, hml, hown, hts⟩ (oL_isRange l hst D y H.size at_ V (-1001) hO) (va_cwS 2 hts gL_refused_L_isRange rfl rfl rfl (by decide +kernel) ⟨(Nat.le_of_ble_eq_true rfl), (Nat.le_of_ble_eq_true rfl)⟩) hK hP hD hS hA hZ hN hJ rfl hl.1 rfl (Nat.le_of_ble_eq_true rfl) dL_refused_216 ⟨by show C + 2300 + 1 + 1 + 1 + 3 + 1 + 3 + 1 + 3 + 1 + 3 + 1 + 3 + 1 + 3 + 1 + 3 + 1 + 3 + 1 + 3 + 1 + 3 + 1 + 3 + 1 + 3 + 1 + 3 + 1 + 3 + 1 + 3 ≤ 5200; omega, by show S + 12000 + 6 + 6 + 6 + 18 + 6 + 18 + 6 + 18 + 6 + 18 + 6 + 18 + 6 + 18 + 6 + 18 + 6 + 18 + 6 + 18 + 6 + 18 + 6 + 18 + 6 + 18 + 6 + 18 + 6 + 18 + 6 + 18 ≤ 28000; omega⟩ (fun r9 V H locs h9 hP hD hS => ?_)
  obtain ⟨rfl, hO⟩ := h9
  refine s1_is (z := 1) isRg_1 ?_
  refine lv_if_eq (tgt := 226) hx hb dL_refused_219 (by decide) (fun h9 => absurd h9 (by decide)) (fun _ => ?_)
  refine lv_iconst (v := 1) hx hb dL_refused_222 (by decide) ?_
  refine lv_goto (tgt := 227) hx hb dL_refused_223 (by decide) ?_
  refine lv_istore (lv' := [(5, .int ((1 : Int32))), (4, .int (nI k)), (3, .int (nI n)), (1, .long (askV q)), (0, .ref at_)]) hx hb dL_refused_227 hl (by decide) rfl (fun ls hl => ?_)
  exact k0 _ _ (by omega) (by omega) _ _ _ (trivial) hO H locs hP hD hS ls (lv_sub hl [4, 3, 2, 1, 0] rfl)
set_option maxHeartbeats 4000000 in
set_option maxRecDepth 100000 in
theorem rf_2 {p : Program} {l : Launch} {e : Env} {s : State} {mi : MethodId} {args : Array Value} {below : List Frame} {meth : Method} {c : Code} {D : va_G} {y : Nat → ClassId} {A : Nat → Prop} {Q : State → Prop} {at_ : Nat}{q : Lad} {us : List Lad} {sv : Option Lad} {rs dt ix lf : Int32} {tx : Nat → Int32} (hst : l.stackTraces = false) (C0 : mC p l c mi s args D y A cL_refused 7 wsL_refused) (n k w9 : Nat) (hc : q.1 = nI n) (h0 : 0 < n) (hn24 : n ≤ 24) (hk9 : k ≤ 999) (hk0 : q.2.2.1 0 = nI k) (hpw : pw n q.2.2.1 (nI k) = some 0) (hw9 : w9 ≤ 99) (hw0 : q.2.2.2.1 0 = nI w9) (k0 : mW p l e (rmx 17 560 5200 28000) s mi args below meth c D y A at_ q us sv 1 0 0 lf 0 tx (anyT) [] Q 7 642 [(0, .ref at_), (1, .long (askV q)), (3, .int (nI n)), (4, .int (nI k)), (5, .int ((1 : Int32)))] (2600) (13500)) : mW p l e (rmx 17 560 5200 28000) s mi args below meth c D y A at_ q us sv 1 0 0 lf 0 tx (anyT) [] Q 7 229 [(0, .ref at_), (1, .long (askV q)), (3, .int (nI n)), (4, .int (nI k)), (5, .int ((1 : Int32)))] (2400) (12500) := by
  obtain ⟨hx, hb, hml, hown, hts, hK, hA, hZ, hN, hJ, -⟩ := C0
  intro C S hC hS9 V NN TT hPT hO H locs hP hD hS ls hl
  have hin : inR 0 999 (nI k) = true := nI_inR (lo := 0) (hi := 999) (by omega) (by omega) (by omega)
  refine lv_iload hx hb dL_refused_229 (lv_at hl 4 rfl) ?_
  refine lv_if_eq (tgt := 639) hx hb dL_refused_231 (by decide) (fun h9 => absurd h9 (by decide)) (fun _ => ?_)
  refine lv_aload_n hx hb dL_refused_234 rfl (lv_at hl 0 rfl) ?_
  refine lv_sipush (v := 1000) hx hb dL_refused_235 (by decide) ?_
  refine lv_bipush (v := 9) hx hb dL_refused_238 (by decide) ?_
  refine ow_Si (As := [.ref at_, .int ((1000 : Int32)), .int ((9 : Int32))]) (rest := []) ⟨hx, hb, hml, hown, hts⟩ (oL_folderOf l hst D y H.size at_ V ((1000 : Int32)) ((9 : Int32)) hO) (vx_cwSW 3 hts gL_refused_L_folderOf rfl rfl rfl (by decide +kernel) ⟨(Nat.le_of_ble_eq_true rfl), (Nat.le_of_ble_eq_true rfl)⟩) hK hP hD hS hA hZ hN hJ rfl hl.1 rfl (Nat.le_of_ble_eq_true rfl) dL_refused_240 ⟨by show C + 3 ≤ 5200; omega, by show S + 18 ≤ 28000; omega⟩ (fun r9 V H locs h9 hP hD hS => ?_)
  obtain ⟨rfl, hO⟩ := h9
  refine s1_is (z := -1001) (z_folder1) ?_
  refine lv_sipush (v := -1001) hx hb dL_refused_243 (by decide) ?_
  refine lv_icmp_ne (tgt := 639) hx hb dL_refused_246 (by decide) (fun h9 => absurd (rfl) h9) (fun _ => ?_)
  refine lv_aload_n hx hb dL_refused_249 rfl (lv_at hl 0 rfl) ?_
  refine lv_iload hx hb dL_refused_250 (lv_at hl 3 rfl) ?_
  refine lv_iconst (v := 4) hx hb dL_refused_252 (by decide) ?_
  refine ow_Si (As := [.ref at_, .int (nI k), .int ((4 : Int32))]) (rest := []) ⟨hx, hb, hml, hown, hts⟩ (oL_folderOf l hst D y H.size at_ V (nI k) ((4 : Int32)) hO) (vx_cwSW 3 hts gL_refused_L_folderOf rfl rfl rfl (by decide +kernel) ⟨(Nat.le_of_ble_eq_true rfl), (Nat.le_of_ble_eq_true rfl)⟩) hK hP hD hS hA hZ hN hJ rfl hl.1 rfl (Nat.le_of_ble_eq_true rfl) dL_refused_253 ⟨by show C + 3 + 3 ≤ 5200; omega, by show S + 18 + 18 ≤ 28000; omega⟩ (fun r9 V H locs h9 hP hD hS => ?_)
  obtain ⟨rfl, hO⟩ := h9
  refine s1_is (z := -1001) (z_folder3 hin (by decide) (by decide)) ?_
  refine lv_sipush (v := -1001) hx hb dL_refused_256 (by decide) ?_
  refine lv_icmp_ne (tgt := 639) hx hb dL_refused_259 (by decide) (fun h9 => absurd (rfl) h9) (fun _ => ?_)
  refine lv_aload_n hx hb dL_refused_262 rfl (lv_at hl 0 rfl) ?_
  refine lv_iload hx hb dL_refused_263 (lv_at hl 3 rfl) ?_
  refine lv_iconst (v := -1) hx hb dL_refused_265 (by decide) ?_
  refine ow_Si (As := [.ref at_, .int (nI k), .int ((-1 : Int32))]) (rest := []) ⟨hx, hb, hml, hown, hts⟩ (oL_folderOf l hst D y H.size at_ V (nI k) ((-1 : Int32)) hO) (vx_cwSW 3 hts gL_refused_L_folderOf rfl rfl rfl (by decide +kernel) ⟨(Nat.le_of_ble_eq_true rfl), (Nat.le_of_ble_eq_true rfl)⟩) hK hP hD hS hA hZ hN hJ rfl hl.1 rfl (Nat.le_of_ble_eq_true rfl) dL_refused_266 ⟨by show C + 3 + 3 + 3 ≤ 5200; omega, by show S + 18 + 18 + 18 ≤ 28000; omega⟩ (fun r9 V H locs h9 hP hD hS => ?_)
  obtain ⟨rfl, hO⟩ := h9
  refine s1_is (z := -1001) (z_folder2 hin (by decide)) ?_
  refine lv_sipush (v := -1001) hx hb dL_refused_269 (by decide) ?_
  refine lv_icmp_ne (tgt := 639) hx hb dL_refused_272 (by decide) (fun h9 => absurd (rfl) h9) (fun _ => ?_)
  refine lv_aload_n hx hb dL_refused_275 rfl (lv_at hl 0 rfl) ?_
  refine lv_iconst (v := -1) hx hb dL_refused_276 (by decide) ?_
  refine ow_Si (As := [.ref at_, .int ((-1 : Int32))]) (rest := []) ⟨hx, hb, hml, hown, hts⟩ (oL_rank l hst D y H.size at_ V ((-1 : Int32)) hO) (vx_cwSW 2 hts gL_refused_L_rank rfl rfl rfl (by decide +kernel) ⟨(Nat.le_of_ble_eq_true rfl), (Nat.le_of_ble_eq_true rfl)⟩) hK hP hD hS hA hZ hN hJ rfl hl.1 rfl (Nat.le_of_ble_eq_true rfl) dL_refused_277 ⟨by show C + 3 + 3 + 3 + 1 ≤ 5200; omega, by show S + 18 + 18 + 18 + 6 ≤ 28000; omega⟩ (fun r9 V H locs h9 hP hD hS => ?_)
  obtain ⟨rfl, hO⟩ := h9
  refine s1_is (z := -1001) (z_rank (by decide)) ?_
  refine lv_sipush (v := -1001) hx hb dL_refused_280 (by decide) ?_
  refine lv_icmp_ne (tgt := 639) hx hb dL_refused_283 (by decide) (fun h9 => absurd (rfl) h9) (fun _ => ?_)
  refine lv_aload_n hx hb dL_refused_286 rfl (lv_at hl 0 rfl) ?_
  refine lv_sipush (v := 1000) hx hb dL_refused_287 (by decide) ?_
  refine ow_Si (As := [.ref at_, .int ((1000 : Int32))]) (rest := []) ⟨hx, hb, hml, hown, hts⟩ (oL_rankAgain l hst D y H.size at_ V ((1000 : Int32)) hO) (vx_cwSW 2 hts gL_refused_L_rankAgain rfl rfl rfl (by decide +kernel) ⟨(Nat.le_of_ble_eq_true rfl), (Nat.le_of_ble_eq_true rfl)⟩) hK hP hD hS hA hZ hN hJ rfl hl.1 rfl (Nat.le_of_ble_eq_true rfl) dL_refused_290 ⟨by show C + 3 + 3 + 3 + 1 + 1 ≤ 5200; omega, by show S + 18 + 18 + 18 + 6 + 6 ≤ 28000; omega⟩ (fun r9 V H locs h9 hP hD hS => ?_)
  obtain ⟨rfl, hO⟩ := h9
  refine s1_is (z := -1001) (z_rankAgain (by decide)) ?_
  refine lv_sipush (v := -1001) hx hb dL_refused_293 (by decide) ?_
  refine lv_icmp_ne (tgt := 639) hx hb dL_refused_296 (by decide) (fun h9 => absurd (rfl) h9) (fun _ => ?_)
  refine lv_aload_n hx hb dL_refused_299 rfl (lv_at hl 0 rfl) ?_
  refine lv_iload_n hx hb dL_refused_300 rfl (lv_at hl 2 rfl) ?_
  refine ow_Si (As := [.ref at_, .int (nI n)]) (rest := []) ⟨hx, hb, hml, hown, hts⟩ (oL_keyAt l hst D y H.size at_ V (nI n) hO) (vx_cwSW 2 hts gL_refused_L_keyAt rfl rfl rfl (by decide +kernel) ⟨(Nat.le_of_ble_eq_true rfl), (Nat.le_of_ble_eq_true rfl)⟩) hK hP hD hS hA hZ hN hJ rfl hl.1 rfl (Nat.le_of_ble_eq_true rfl) dL_refused_301 ⟨by show C + 3 + 3 + 3 + 1 + 1 + 1 ≤ 5200; omega, by show S + 18 + 18 + 18 + 6 + 6 + 6 ≤ 28000; omega⟩ (fun r9 V H locs h9 hP hD hS => ?_)
  obtain ⟨rfl, hO⟩ := h9
  refine s1_is (z := -1001) (z_keyn hn24 hc) ?_
  refine lv_sipush (v := -1001) hx hb dL_refused_304 (by decide) ?_
  refine lv_icmp_ne (tgt := 639) hx hb dL_refused_307 (by decide) (fun h9 => absurd (rfl) h9) (fun _ => ?_)
  refine lv_aload_n hx hb dL_refused_310 rfl (lv_at hl 0 rfl) ?_
  refine lv_iconst (v := -1) hx hb dL_refused_311 (by decide) ?_
  refine ow_Si (As := [.ref at_, .int ((-1 : Int32))]) (rest := []) ⟨hx, hb, hml, hown, hts⟩ (oL_keyAt l hst D y H.size at_ V ((-1 : Int32)) hO) (vx_cwSW 2 hts gL_refused_L_keyAt rfl rfl rfl (by decide +kernel) ⟨(Nat.le_of_ble_eq_true rfl), (Nat.le_of_ble_eq_true rfl)⟩) hK hP hD hS hA hZ hN hJ rfl hl.1 rfl (Nat.le_of_ble_eq_true rfl) dL_refused_312 ⟨by show C + 3 + 3 + 3 + 1 + 1 + 1 + 1 ≤ 5200; omega, by show S + 18 + 18 + 18 + 6 + 6 + 6 + 6 ≤ 28000; omega⟩ (fun r9 V H locs h9 hP hD hS => ?_)
  obtain ⟨rfl, hO⟩ := h9
  refine s1_is (z := -1001) (z_keyM hc) ?_
  refine lv_sipush (v := -1001) hx hb dL_refused_315 (by decide) ?_
  refine lv_icmp_ne (tgt := 639) hx hb dL_refused_318 (by decide) (fun h9 => absurd (rfl) h9) (fun _ => ?_)
  refine lv_aload_n hx hb dL_refused_321 rfl (lv_at hl 0 rfl) ?_
  refine lv_sipush (v := 1000) hx hb dL_refused_322 (by decide) ?_
  refine ow_Si (As := [.ref at_, .int ((1000 : Int32))]) (rest := []) ⟨hx, hb, hml, hown, hts⟩ (oL_steps l hst D y H.size at_ V ((1000 : Int32)) hO) (vx_cwSW 2 hts gL_refused_L_steps rfl rfl rfl (by decide +kernel) ⟨(Nat.le_of_ble_eq_true rfl), (Nat.le_of_ble_eq_true rfl)⟩) hK hP hD hS hA hZ hN hJ rfl hl.1 rfl (Nat.le_of_ble_eq_true rfl) dL_refused_325 ⟨by show C + 3 + 3 + 3 + 1 + 1 + 1 + 1 + 1 ≤ 5200; omega, by show S + 18 + 18 + 18 + 6 + 6 + 6 + 6 + 6 ≤ 28000; omega⟩ (fun r9 V H locs h9 hP hD hS => ?_)
  obtain ⟨rfl, hO⟩ := h9
  refine s1_is (z := -1001) (z_steps (by decide)) ?_
  refine lv_sipush (v := -1001) hx hb dL_refused_328 (by decide) ?_
  refine lv_icmp_ne (tgt := 639) hx hb dL_refused_331 (by decide) (fun h9 => absurd (rfl) h9) (fun _ => ?_)
  refine lv_aload_n hx hb dL_refused_334 rfl (lv_at hl 0 rfl) ?_
  refine lv_iconst (v := -1) hx hb dL_refused_335 (by decide) ?_
  refine ow_Si (As := [.ref at_, .int ((-1 : Int32))]) (rest := []) ⟨hx, hb, hml, hown, hts⟩ (oL_stepsAgain l hst D y H.size at_ V ((-1 : Int32)) hO) (vx_cwSW 2 hts gL_refused_L_stepsAgain rfl rfl rfl (by decide +kernel) ⟨(Nat.le_of_ble_eq_true rfl), (Nat.le_of_ble_eq_true rfl)⟩) hK hP hD hS hA hZ hN hJ rfl hl.1 rfl (Nat.le_of_ble_eq_true rfl) dL_refused_336 ⟨by show C + 3 + 3 + 3 + 1 + 1 + 1 + 1 + 1 + 1 ≤ 5200; omega, by show S + 18 + 18 + 18 + 6 + 6 + 6 + 6 + 6 + 6 ≤ 28000; omega⟩ (fun r9 V H locs h9 hP hD hS => ?_)
  obtain ⟨rfl, hO⟩ := h9
  refine s1_is (z := -1001) (z_stepsAgain (by decide)) ?_
  refine lv_sipush (v := -1001) hx hb dL_refused_339 (by decide) ?_
  refine lv_icmp_ne (tgt := 639) hx hb dL_refused_342 (by decide) (fun h9 => absurd (rfl) h9) (fun _ => ?_)
  refine lv_aload_n hx hb dL_refused_345 rfl (lv_at hl 0 rfl) ?_
  refine lv_sipush (v := 1000) hx hb dL_refused_346 (by decide) ?_
  refine lv_bipush (v := 99) hx hb dL_refused_349 (by decide) ?_
  refine ow_Si (As := [.ref at_, .int ((1000 : Int32)), .int ((99 : Int32))]) (rest := []) ⟨hx, hb, hml, hown, hts⟩ (oL_placeOf l hst D y H.size at_ V ((1000 : Int32)) ((99 : Int32)) hO) (vx_cwSW 3 hts gL_refused_L_placeOf rfl rfl rfl (by decide +kernel) ⟨(Nat.le_of_ble_eq_true rfl), (Nat.le_of_ble_eq_true rfl)⟩) hK hP hD hS hA hZ hN hJ rfl hl.1 rfl (Nat.le_of_ble_eq_true rfl) dL_refused_351 ⟨by show C + 3 + 3 + 3 + 1 + 1 + 1 + 1 + 1 + 1 + 2 ≤ 5200; omega, by show S + 18 + 18 + 18 + 6 + 6 + 6 + 6 + 6 + 6 + 12 ≤ 28000; omega⟩ (fun r9 V H locs h9 hP hD hS => ?_)
  obtain ⟨rfl, hO⟩ := h9
  refine s1_is (z := -1001) (z_placeOf (by decide)) ?_
  refine lv_sipush (v := -1001) hx hb dL_refused_354 (by decide) ?_
  refine lv_icmp_ne (tgt := 639) hx hb dL_refused_357 (by decide) (fun h9 => absurd (rfl) h9) (fun _ => ?_)
  refine lv_aload_n hx hb dL_refused_360 rfl (lv_at hl 0 rfl) ?_
  refine lv_iconst (v := 0) hx hb dL_refused_361 (by decide) ?_
  refine lv_iconst (v := -1) hx hb dL_refused_362 (by decide) ?_
  refine ow_Si (As := [.ref at_, .int ((0 : Int32)), .int ((-1 : Int32))]) (rest := []) ⟨hx, hb, hml, hown, hts⟩ (oL_placeOf l hst D y H.size at_ V ((0 : Int32)) ((-1 : Int32)) hO) (vx_cwSW 3 hts gL_refused_L_placeOf rfl rfl rfl (by decide +kernel) ⟨(Nat.le_of_ble_eq_true rfl), (Nat.le_of_ble_eq_true rfl)⟩) hK hP hD hS hA hZ hN hJ rfl hl.1 rfl (Nat.le_of_ble_eq_true rfl) dL_refused_363 ⟨by show C + 3 + 3 + 3 + 1 + 1 + 1 + 1 + 1 + 1 + 2 + 2 ≤ 5200; omega, by show S + 18 + 18 + 18 + 6 + 6 + 6 + 6 + 6 + 6 + 12 + 12 ≤ 28000; omega⟩ (fun r9 V H locs h9 hP hD hS => ?_)
  obtain ⟨rfl, hO⟩ := h9
  refine s1_is (z := -1002) (z_placeOf2 (by decide) (by decide)) ?_
  refine lv_sipush (v := -1002) hx hb dL_refused_366 (by decide) ?_
  refine lv_icmp_ne (tgt := 639) hx hb dL_refused_369 (by decide) (fun h9 => absurd (rfl) h9) (fun _ => ?_)
  refine lv_aload_n hx hb dL_refused_372 rfl (lv_at hl 0 rfl) ?_
  refine lv_iconst (v := -1) hx hb dL_refused_373 (by decide) ?_
  refine ow_Si (As := [.ref at_, .int ((-1 : Int32))]) (rest := []) ⟨hx, hb, hml, hown, hts⟩ (oL_falls l hst D y H.size at_ V ((-1 : Int32)) hO) (vx_cwSW 2 hts gL_refused_L_falls rfl rfl rfl (by decide +kernel) ⟨(Nat.le_of_ble_eq_true rfl), (Nat.le_of_ble_eq_true rfl)⟩) hK hP hD hS hA hZ hN hJ rfl hl.1 rfl (Nat.le_of_ble_eq_true rfl) dL_refused_374 ⟨by show C + 3 + 3 + 3 + 1 + 1 + 1 + 1 + 1 + 1 + 2 + 2 + 1 ≤ 5200; omega, by show S + 18 + 18 + 18 + 6 + 6 + 6 + 6 + 6 + 6 + 12 + 12 + 6 ≤ 28000; omega⟩ (fun r9 V H locs h9 hP hD hS => ?_)
  obtain ⟨rfl, hO⟩ := h9
  refine s1_is (z := -1001) (z_falls (by decide)) ?_
  refine lv_sipush (v := -1001) hx hb dL_refused_377 (by decide) ?_
  refine lv_icmp_ne (tgt := 639) hx hb dL_refused_380 (by decide) (fun h9 => absurd (rfl) h9) (fun _ => ?_)
  refine lv_aload_n hx hb dL_refused_383 rfl (lv_at hl 0 rfl) ?_
  refine lv_sipush (v := 1000) hx hb dL_refused_384 (by decide) ?_
  refine ow_Si (As := [.ref at_, .int ((1000 : Int32))]) (rest := []) ⟨hx, hb, hml, hown, hts⟩ (oL_floor l hst D y H.size at_ V ((1000 : Int32)) hO) (vx_cwSW 2 hts gL_refused_L_floor rfl rfl rfl (by decide +kernel) ⟨(Nat.le_of_ble_eq_true rfl), (Nat.le_of_ble_eq_true rfl)⟩) hK hP hD hS hA hZ hN hJ rfl hl.1 rfl (Nat.le_of_ble_eq_true rfl) dL_refused_387 ⟨by show C + 3 + 3 + 3 + 1 + 1 + 1 + 1 + 1 + 1 + 2 + 2 + 1 + 2 ≤ 5200; omega, by show S + 18 + 18 + 18 + 6 + 6 + 6 + 6 + 6 + 6 + 12 + 12 + 6 + 12 ≤ 28000; omega⟩ (fun r9 V H locs h9 hP hD hS => ?_)
  obtain ⟨rfl, hO⟩ := h9
  refine s1_is (z := -1001) (z_floor (by decide)) ?_
  refine lv_sipush (v := -1001) hx hb dL_refused_390 (by decide) ?_
  refine lv_icmp_ne (tgt := 639) hx hb dL_refused_393 (by decide) (fun h9 => absurd (rfl) h9) (fun _ => ?_)
  refine lv_aload_n hx hb dL_refused_396 rfl (lv_at hl 0 rfl) ?_
  refine lv_iconst (v := -1) hx hb dL_refused_397 (by decide) ?_
  refine ow_Si (As := [.ref at_, .int ((-1 : Int32))]) (rest := []) ⟨hx, hb, hml, hown, hts⟩ (oL_ceiling l hst D y H.size at_ V ((-1 : Int32)) hO) (vx_cwSW 2 hts gL_refused_L_ceiling rfl rfl rfl (by decide +kernel) ⟨(Nat.le_of_ble_eq_true rfl), (Nat.le_of_ble_eq_true rfl)⟩) hK hP hD hS hA hZ hN hJ rfl hl.1 rfl (Nat.le_of_ble_eq_true rfl) dL_refused_398 ⟨by show C + 3 + 3 + 3 + 1 + 1 + 1 + 1 + 1 + 1 + 2 + 2 + 1 + 2 + 2 ≤ 5200; omega, by show S + 18 + 18 + 18 + 6 + 6 + 6 + 6 + 6 + 6 + 12 + 12 + 6 + 12 + 12 ≤ 28000; omega⟩ (fun r9 V H locs h9 hP hD hS => ?_)
  obtain ⟨rfl, hO⟩ := h9
  refine s1_is (z := -1001) (z_ceiling (by decide)) ?_
  refine lv_sipush (v := -1001) hx hb dL_refused_401 (by decide) ?_
  refine lv_icmp_ne (tgt := 639) hx hb dL_refused_404 (by decide) (fun h9 => absurd (rfl) h9) (fun _ => ?_)
  refine lv_aload_n hx hb dL_refused_407 rfl (lv_at hl 0 rfl) ?_
  refine lv_iconst (v := -1) hx hb dL_refused_408 (by decide) ?_
  refine lv_iconst (v := 5) hx hb dL_refused_409 (by decide) ?_
  refine ow_Si (As := [.ref at_, .int ((-1 : Int32)), .int ((5 : Int32))]) (rest := []) ⟨hx, hb, hml, hown, hts⟩ (oL_count l hst D y H.size at_ V ((-1 : Int32)) ((5 : Int32)) hO) (vx_cwSW 3 hts gL_refused_L_count rfl rfl rfl (by decide +kernel) ⟨(Nat.le_of_ble_eq_true rfl), (Nat.le_of_ble_eq_true rfl)⟩) hK hP hD hS hA hZ hN hJ rfl hl.1 rfl (Nat.le_of_ble_eq_true rfl) dL_refused_410 ⟨by show C + 3 + 3 + 3 + 1 + 1 + 1 + 1 + 1 + 1 + 2 + 2 + 1 + 2 + 2 + 3 ≤ 5200; omega, by show S + 18 + 18 + 18 + 6 + 6 + 6 + 6 + 6 + 6 + 12 + 12 + 6 + 12 + 12 + 18 ≤ 28000; omega⟩ (fun r9 V H locs h9 hP hD hS => ?_)
  obtain ⟨rfl, hO⟩ := h9
  refine s1_is (z := -1001) (z_count (by decide)) ?_
  refine lv_sipush (v := -1001) hx hb dL_refused_413 (by decide) ?_
  refine lv_icmp_ne (tgt := 639) hx hb dL_refused_416 (by decide) (fun h9 => absurd (rfl) h9) (fun _ => ?_)
  refine lv_aload_n hx hb dL_refused_419 rfl (lv_at hl 0 rfl) ?_
  refine lv_iconst (v := 5) hx hb dL_refused_420 (by decide) ?_
  refine lv_sipush (v := 1000) hx hb dL_refused_421 (by decide) ?_
  refine ow_Si (As := [.ref at_, .int ((5 : Int32)), .int ((1000 : Int32))]) (rest := []) ⟨hx, hb, hml, hown, hts⟩ (oL_countAgain l hst D y H.size at_ V ((5 : Int32)) ((1000 : Int32)) hO) (vx_cwSW 3 hts gL_refused_L_countAgain rfl rfl rfl (by decide +kernel) ⟨(Nat.le_of_ble_eq_true rfl), (Nat.le_of_ble_eq_true rfl)⟩) hK hP hD hS hA hZ hN hJ rfl hl.1 rfl (Nat.le_of_ble_eq_true rfl) dL_refused_424 ⟨by show C + 3 + 3 + 3 + 1 + 1 + 1 + 1 + 1 + 1 + 2 + 2 + 1 + 2 + 2 + 3 + 3 ≤ 5200; omega, by show S + 18 + 18 + 18 + 6 + 6 + 6 + 6 + 6 + 6 + 12 + 12 + 6 + 12 + 12 + 18 + 18 ≤ 28000; omega⟩ (fun r9 V H locs h9 hP hD hS => ?_)
  obtain ⟨rfl, hO⟩ := h9
  refine s1_is (z := -1001) (z_countAgain (by decide)) ?_
  refine lv_sipush (v := -1001) hx hb dL_refused_427 (by decide) ?_
  refine lv_icmp_ne (tgt := 639) hx hb dL_refused_430 (by decide) (fun h9 => absurd (rfl) h9) (fun _ => ?_)
  refine lv_aload_n hx hb dL_refused_433 rfl (lv_at hl 0 rfl) ?_
  refine lv_bipush (v := 6) hx hb dL_refused_434 (by decide) ?_
  refine lv_iconst (v := 5) hx hb dL_refused_436 (by decide) ?_
  refine ow_Si (As := [.ref at_, .int ((6 : Int32)), .int ((5 : Int32))]) (rest := []) ⟨hx, hb, hml, hown, hts⟩ (oL_weightIn l hst D y H.size at_ V ((6 : Int32)) ((5 : Int32)) hO) (vx_cwSW 3 hts gL_refused_L_weightIn rfl rfl rfl (by decide +kernel) ⟨(Nat.le_of_ble_eq_true rfl), (Nat.le_of_ble_eq_true rfl)⟩) hK hP hD hS hA hZ hN hJ rfl hl.1 rfl (Nat.le_of_ble_eq_true rfl) dL_refused_437 ⟨by show C + 3 + 3 + 3 + 1 + 1 + 1 + 1 + 1 + 1 + 2 + 2 + 1 + 2 + 2 + 3 + 3 + 3 ≤ 5200; omega, by show S + 18 + 18 + 18 + 6 + 6 + 6 + 6 + 6 + 6 + 12 + 12 + 6 + 12 + 12 + 18 + 18 + 18 ≤ 28000; omega⟩ (fun r9 V H locs h9 hP hD hS => ?_)
  obtain ⟨rfl, hO⟩ := h9
  refine s1_is (z := -1001) (z_weightIn (by decide)) ?_
  refine lv_sipush (v := -1001) hx hb dL_refused_440 (by decide) ?_
  refine lv_icmp_ne (tgt := 639) hx hb dL_refused_443 (by decide) (fun h9 => absurd (rfl) h9) (fun _ => ?_)
  refine lv_aload_n hx hb dL_refused_446 rfl (lv_at hl 0 rfl) ?_
  refine lv_bipush (v := 6) hx hb dL_refused_447 (by decide) ?_
  refine lv_iconst (v := 5) hx hb dL_refused_449 (by decide) ?_
  refine ow_Si (As := [.ref at_, .int ((6 : Int32)), .int ((5 : Int32))]) (rest := []) ⟨hx, hb, hml, hown, hts⟩ (oL_heaviestIn l hst D y H.size at_ V ((6 : Int32)) ((5 : Int32)) hO) (vx_cwSW 3 hts gL_refused_L_heaviestIn rfl rfl rfl (by decide +kernel) ⟨(Nat.le_of_ble_eq_true rfl), (Nat.le_of_ble_eq_true rfl)⟩) hK hP hD hS hA hZ hN hJ rfl hl.1 rfl (Nat.le_of_ble_eq_true rfl) dL_refused_450 ⟨by show C + 3 + 3 + 3 + 1 + 1 + 1 + 1 + 1 + 1 + 2 + 2 + 1 + 2 + 2 + 3 + 3 + 3 + 4 ≤ 5200; omega, by show S + 18 + 18 + 18 + 6 + 6 + 6 + 6 + 6 + 6 + 12 + 12 + 6 + 12 + 12 + 18 + 18 + 18 + 24 ≤ 28000; omega⟩ (fun r9 V H locs h9 hP hD hS => ?_)
  obtain ⟨rfl, hO⟩ := h9
  refine s1_is (z := -1001) (z_heaviestIn (by decide)) ?_
  refine lv_sipush (v := -1001) hx hb dL_refused_453 (by decide) ?_
  refine lv_icmp_ne (tgt := 639) hx hb dL_refused_456 (by decide) (fun h9 => absurd (rfl) h9) (fun _ => ?_)
  refine lv_aload_n hx hb dL_refused_459 rfl (lv_at hl 0 rfl) ?_
  refine lv_iconst (v := 5) hx hb dL_refused_460 (by decide) ?_
  refine ow_Si (As := [.ref at_, .int ((5 : Int32))]) (rest := []) ⟨hx, hb, hml, hown, hts⟩ (oL_levelSize l hst D y H.size at_ V ((5 : Int32)) hO) (vx_cwSW 2 hts gL_refused_L_levelSize rfl rfl rfl (by decide +kernel) ⟨(Nat.le_of_ble_eq_true rfl), (Nat.le_of_ble_eq_true rfl)⟩) hK hP hD hS hA hZ hN hJ rfl hl.1 rfl (Nat.le_of_ble_eq_true rfl) dL_refused_461 ⟨by show C + 3 + 3 + 3 + 1 + 1 + 1 + 1 + 1 + 1 + 2 + 2 + 1 + 2 + 2 + 3 + 3 + 3 + 4 + 1 ≤ 5200; omega, by show S + 18 + 18 + 18 + 6 + 6 + 6 + 6 + 6 + 6 + 12 + 12 + 6 + 12 + 12 + 18 + 18 + 18 + 24 + 6 ≤ 28000; omega⟩ (fun r9 V H locs h9 hP hD hS => ?_)
  obtain ⟨rfl, hO⟩ := h9
  refine s1_is (z := -1001) (z_levelSize (by decide)) ?_
  refine lv_sipush (v := -1001) hx hb dL_refused_464 (by decide) ?_
  refine lv_icmp_ne (tgt := 639) hx hb dL_refused_467 (by decide) (fun h9 => absurd (rfl) h9) (fun _ => ?_)
  refine lv_aload_n hx hb dL_refused_470 rfl (lv_at hl 0 rfl) ?_
  refine lv_iconst (v := 5) hx hb dL_refused_471 (by decide) ?_
  refine lv_iconst (v := 0) hx hb dL_refused_472 (by decide) ?_
  refine ow_Si (As := [.ref at_, .int ((5 : Int32)), .int ((0 : Int32))]) (rest := []) ⟨hx, hb, hml, hown, hts⟩ (oL_levelAt l hst D y H.size at_ V ((5 : Int32)) ((0 : Int32)) hO) (vx_cwSW 3 hts gL_refused_L_levelAt rfl rfl rfl (by decide +kernel) ⟨(Nat.le_of_ble_eq_true rfl), (Nat.le_of_ble_eq_true rfl)⟩) hK hP hD hS hA hZ hN hJ rfl hl.1 rfl (Nat.le_of_ble_eq_true rfl) dL_refused_473 ⟨by show C + 3 + 3 + 3 + 1 + 1 + 1 + 1 + 1 + 1 + 2 + 2 + 1 + 2 + 2 + 3 + 3 + 3 + 4 + 1 + 2 ≤ 5200; omega, by show S + 18 + 18 + 18 + 6 + 6 + 6 + 6 + 6 + 6 + 12 + 12 + 6 + 12 + 12 + 18 + 18 + 18 + 24 + 6 + 12 ≤ 28000; omega⟩ (fun r9 V H locs h9 hP hD hS => ?_)
  obtain ⟨rfl, hO⟩ := h9
  refine s1_is (z := -1001) (z_levelAt (by decide)) ?_
  refine lv_sipush (v := -1001) hx hb dL_refused_476 (by decide) ?_
  refine lv_icmp_ne (tgt := 639) hx hb dL_refused_479 (by decide) (fun h9 => absurd (rfl) h9) (fun _ => ?_)
  refine lv_aload_n hx hb dL_refused_482 rfl (lv_at hl 0 rfl) ?_
  refine lv_iconst (v := 0) hx hb dL_refused_483 (by decide) ?_
  refine lv_iload_n hx hb dL_refused_484 rfl (lv_at hl 2 rfl) ?_
  refine ow_Si (As := [.ref at_, .int ((0 : Int32)), .int (nI n)]) (rest := []) ⟨hx, hb, hml, hown, hts⟩ (oL_levelAt l hst D y H.size at_ V ((0 : Int32)) (nI n) hO) (vx_cwSW 3 hts gL_refused_L_levelAt rfl rfl rfl (by decide +kernel) ⟨(Nat.le_of_ble_eq_true rfl), (Nat.le_of_ble_eq_true rfl)⟩) hK hP hD hS hA hZ hN hJ rfl hl.1 rfl (Nat.le_of_ble_eq_true rfl) dL_refused_485 ⟨by show C + 3 + 3 + 3 + 1 + 1 + 1 + 1 + 1 + 1 + 2 + 2 + 1 + 2 + 2 + 3 + 3 + 3 + 4 + 1 + 2 + 2 ≤ 5200; omega, by show S + 18 + 18 + 18 + 6 + 6 + 6 + 6 + 6 + 6 + 12 + 12 + 6 + 12 + 12 + 18 + 18 + 18 + 24 + 6 + 12 + 12 ≤ 28000; omega⟩ (fun r9 V H locs h9 hP hD hS => ?_)
  obtain ⟨rfl, hO⟩ := h9
  refine s1_is (z := -1002) (z_levelAt3 hn24 hc (by decide)) ?_
  refine lv_sipush (v := -1002) hx hb dL_refused_488 (by decide) ?_
  refine lv_icmp_ne (tgt := 639) hx hb dL_refused_491 (by decide) (fun h9 => absurd (rfl) h9) (fun _ => ?_)
  refine lv_aload_n hx hb dL_refused_494 rfl (lv_at hl 0 rfl) ?_
  refine lv_iconst (v := 0) hx hb dL_refused_495 (by decide) ?_
  refine lv_iconst (v := -1) hx hb dL_refused_496 (by decide) ?_
  refine ow_Si (As := [.ref at_, .int ((0 : Int32)), .int ((-1 : Int32))]) (rest := []) ⟨hx, hb, hml, hown, hts⟩ (oL_levelAt l hst D y H.size at_ V ((0 : Int32)) ((-1 : Int32)) hO) (vx_cwSW 3 hts gL_refused_L_levelAt rfl rfl rfl (by decide +kernel) ⟨(Nat.le_of_ble_eq_true rfl), (Nat.le_of_ble_eq_true rfl)⟩) hK hP hD hS hA hZ hN hJ rfl hl.1 rfl (Nat.le_of_ble_eq_true rfl) dL_refused_497 ⟨by show C + 3 + 3 + 3 + 1 + 1 + 1 + 1 + 1 + 1 + 2 + 2 + 1 + 2 + 2 + 3 + 3 + 3 + 4 + 1 + 2 + 2 + 2 ≤ 5200; omega, by show S + 18 + 18 + 18 + 6 + 6 + 6 + 6 + 6 + 6 + 12 + 12 + 6 + 12 + 12 + 18 + 18 + 18 + 24 + 6 + 12 + 12 + 12 ≤ 28000; omega⟩ (fun r9 V H locs h9 hP hD hS => ?_)
  obtain ⟨rfl, hO⟩ := h9
  refine s1_is (z := -1002) (z_levelAt2 (by decide) (by decide)) ?_
  refine lv_sipush (v := -1002) hx hb dL_refused_500 (by decide) ?_
  refine lv_icmp_ne (tgt := 639) hx hb dL_refused_503 (by decide) (fun h9 => absurd (rfl) h9) (fun _ => ?_)
  refine lv_aload_n hx hb dL_refused_506 rfl (lv_at hl 0 rfl) ?_
  refine lv_sipush (v := 1000) hx hb dL_refused_507 (by decide) ?_
  refine lv_iconst (v := 5) hx hb dL_refused_510 (by decide) ?_
  refine ow_Si (As := [.ref at_, .int ((1000 : Int32)), .int ((5 : Int32))]) (rest := []) ⟨hx, hb, hml, hown, hts⟩ (oL_span l hst D y H.size at_ V ((1000 : Int32)) ((5 : Int32)) hO) (vx_cwSW 3 hts gL_refused_L_span rfl rfl rfl (by decide +kernel) ⟨(Nat.le_of_ble_eq_true rfl), (Nat.le_of_ble_eq_true rfl)⟩) hK hP hD hS hA hZ hN hJ rfl hl.1 rfl (Nat.le_of_ble_eq_true rfl) dL_refused_511 ⟨by show C + 3 + 3 + 3 + 1 + 1 + 1 + 1 + 1 + 1 + 2 + 2 + 1 + 2 + 2 + 3 + 3 + 3 + 4 + 1 + 2 + 2 + 2 + 4 ≤ 5200; omega, by show S + 18 + 18 + 18 + 6 + 6 + 6 + 6 + 6 + 6 + 12 + 12 + 6 + 12 + 12 + 18 + 18 + 18 + 24 + 6 + 12 + 12 + 12 + 24 ≤ 28000; omega⟩ (fun r9 V H locs h9 hP hD hS => ?_)
  obtain ⟨rfl, hO⟩ := h9
  refine s1_is (z := -1001) (z_span (by decide)) ?_
  refine lv_sipush (v := -1001) hx hb dL_refused_514 (by decide) ?_
  refine lv_icmp_ne (tgt := 639) hx hb dL_refused_517 (by decide) (fun h9 => absurd (rfl) h9) (fun _ => ?_)
  refine lv_aload_n hx hb dL_refused_520 rfl (lv_at hl 0 rfl) ?_
  refine lv_sipush (v := 1000) hx hb dL_refused_521 (by decide) ?_
  refine lv_iconst (v := 0) hx hb dL_refused_524 (by decide) ?_
  refine ow_Si (As := [.ref at_, .int ((1000 : Int32)), .int ((0 : Int32))]) (rest := []) ⟨hx, hb, hml, hown, hts⟩ (oL_span l hst D y H.size at_ V ((1000 : Int32)) ((0 : Int32)) hO) (vx_cwSW 3 hts gL_refused_L_span rfl rfl rfl (by decide +kernel) ⟨(Nat.le_of_ble_eq_true rfl), (Nat.le_of_ble_eq_true rfl)⟩) hK hP hD hS hA hZ hN hJ rfl hl.1 rfl (Nat.le_of_ble_eq_true rfl) dL_refused_525 ⟨by show C + 3 + 3 + 3 + 1 + 1 + 1 + 1 + 1 + 1 + 2 + 2 + 1 + 2 + 2 + 3 + 3 + 3 + 4 + 1 + 2 + 2 + 2 + 4 + 4 ≤ 5200; omega, by show S + 18 + 18 + 18 + 6 + 6 + 6 + 6 + 6 + 6 + 12 + 12 + 6 + 12 + 12 + 18 + 18 + 18 + 24 + 6 + 12 + 12 + 12 + 24 + 24 ≤ 28000; omega⟩ (fun r9 V H locs h9 hP hD hS => ?_)
  obtain ⟨rfl, hO⟩ := h9
  refine s1_is (z := -1002) (z_span2 (by decide) (by decide)) ?_
  refine lv_sipush (v := -1002) hx hb dL_refused_528 (by decide) ?_
  refine lv_icmp_ne (tgt := 639) hx hb dL_refused_531 (by decide) (fun h9 => absurd (rfl) h9) (fun _ => ?_)
  refine lv_aload_n hx hb dL_refused_534 rfl (lv_at hl 0 rfl) ?_
  refine lv_iconst (v := -1) hx hb dL_refused_535 (by decide) ?_
  refine ow_Si (As := [.ref at_, .int ((-1 : Int32))]) (rest := []) ⟨hx, hb, hml, hown, hts⟩ (oL_headSpan l hst D y H.size at_ V ((-1 : Int32)) hO) (vx_cwSW 2 hts gL_refused_L_headSpan rfl rfl rfl (by decide +kernel) ⟨(Nat.le_of_ble_eq_true rfl), (Nat.le_of_ble_eq_true rfl)⟩) hK hP hD hS hA hZ hN hJ rfl hl.1 rfl (Nat.le_of_ble_eq_true rfl) dL_refused_536 ⟨by show C + 3 + 3 + 3 + 1 + 1 + 1 + 1 + 1 + 1 + 2 + 2 + 1 + 2 + 2 + 3 + 3 + 3 + 4 + 1 + 2 + 2 + 2 + 4 + 4 + 1 ≤ 5200; omega, by show S + 18 + 18 + 18 + 6 + 6 + 6 + 6 + 6 + 6 + 12 + 12 + 6 + 12 + 12 + 18 + 18 + 18 + 24 + 6 + 12 + 12 + 12 + 24 + 24 + 6 ≤ 28000; omega⟩ (fun r9 V H locs h9 hP hD hS => ?_)
  obtain ⟨rfl, hO⟩ := h9
  refine s1_is (z := -1001) (z_headSpan (by decide)) ?_
  refine lv_sipush (v := -1001) hx hb dL_refused_539 (by decide) ?_
  refine lv_icmp_ne (tgt := 639) hx hb dL_refused_542 (by decide) (fun h9 => absurd (rfl) h9) (fun _ => ?_)
  refine lv_aload_n hx hb dL_refused_545 rfl (lv_at hl 0 rfl) ?_
  refine lv_iconst (v := 5) hx hb dL_refused_546 (by decide) ?_
  refine ow_Si (As := [.ref at_, .int ((5 : Int32))]) (rest := []) ⟨hx, hb, hml, hown, hts⟩ (oL_forgotten l hst D y H.size at_ V ((5 : Int32)) hO) (vx_cwSW 2 hts gL_refused_L_forgotten rfl rfl rfl (by decide +kernel) ⟨(Nat.le_of_ble_eq_true rfl), (Nat.le_of_ble_eq_true rfl)⟩) hK hP hD hS hA hZ hN hJ rfl hl.1 rfl (Nat.le_of_ble_eq_true rfl) dL_refused_547 ⟨by show C + 3 + 3 + 3 + 1 + 1 + 1 + 1 + 1 + 1 + 2 + 2 + 1 + 2 + 2 + 3 + 3 + 3 + 4 + 1 + 2 + 2 + 2 + 4 + 4 + 1 + 1 ≤ 5200; omega, by show S + 18 + 18 + 18 + 6 + 6 + 6 + 6 + 6 + 6 + 12 + 12 + 6 + 12 + 12 + 18 + 18 + 18 + 24 + 6 + 12 + 12 + 12 + 24 + 24 + 6 + 6 ≤ 28000; omega⟩ (fun r9 V H locs h9 hP hD hS => ?_)
  obtain ⟨rfl, hO⟩ := h9
  refine s1_is (z := -1001) (z_isForgotten (by decide)) ?_
  refine lv_sipush (v := -1001) hx hb dL_refused_550 (by decide) ?_
  refine lv_icmp_ne (tgt := 639) hx hb dL_refused_553 (by decide) (fun h9 => absurd (rfl) h9) (fun _ => ?_)
  refine lv_aload_n hx hb dL_refused_556 rfl (lv_at hl 0 rfl) ?_
  refine lv_iconst (v := 3) hx hb dL_refused_557 (by decide) ?_
  refine ow_Si (As := [.ref at_, .int ((3 : Int32))]) (rest := []) ⟨hx, hb, hml, hown, hts⟩ (oL_reason l hst D y H.size at_ V ((3 : Int32)) hO) (vx_cwSW 2 hts gL_refused_L_reason rfl rfl rfl (by decide +kernel) ⟨(Nat.le_of_ble_eq_true rfl), (Nat.le_of_ble_eq_true rfl)⟩) hK hP hD hS hA hZ hN hJ rfl hl.1 rfl (Nat.le_of_ble_eq_true rfl) dL_refused_558 ⟨by show C + 3 + 3 + 3 + 1 + 1 + 1 + 1 + 1 + 1 + 2 + 2 + 1 + 2 + 2 + 3 + 3 + 3 + 4 + 1 + 2 + 2 + 2 + 4 + 4 + 1 + 1 + 1 ≤ 5200; omega, by show S + 18 + 18 + 18 + 6 + 6 + 6 + 6 + 6 + 6 + 12 + 12 + 6 + 12 + 12 + 18 + 18 + 18 + 24 + 6 + 12 + 12 + 12 + 24 + 24 + 6 + 6 + 6 ≤ 28000; omega⟩ (fun r9 V H locs h9 hP hD hS => ?_)
  obtain ⟨rfl, hO⟩ := h9
  refine s1_is (z := -1001) (z_reason3) ?_
  refine lv_sipush (v := -1001) hx hb dL_refused_561 (by decide) ?_
  refine lv_icmp_ne (tgt := 639) hx hb dL_refused_564 (by decide) (fun h9 => absurd (rfl) h9) (fun _ => ?_)
  refine lv_aload_n hx hb dL_refused_567 rfl (lv_at hl 0 rfl) ?_
  refine lv_iconst (v := -1) hx hb dL_refused_568 (by decide) ?_
  refine ow_Si (As := [.ref at_, .int ((-1 : Int32))]) (rest := []) ⟨hx, hb, hml, hown, hts⟩ (oL_reason l hst D y H.size at_ V ((-1 : Int32)) hO) (vx_cwSW 2 hts gL_refused_L_reason rfl rfl rfl (by decide +kernel) ⟨(Nat.le_of_ble_eq_true rfl), (Nat.le_of_ble_eq_true rfl)⟩) hK hP hD hS hA hZ hN hJ rfl hl.1 rfl (Nat.le_of_ble_eq_true rfl) dL_refused_569 ⟨by show C + 3 + 3 + 3 + 1 + 1 + 1 + 1 + 1 + 1 + 2 + 2 + 1 + 2 + 2 + 3 + 3 + 3 + 4 + 1 + 2 + 2 + 2 + 4 + 4 + 1 + 1 + 1 + 1 ≤ 5200; omega, by show S + 18 + 18 + 18 + 6 + 6 + 6 + 6 + 6 + 6 + 12 + 12 + 6 + 12 + 12 + 18 + 18 + 18 + 24 + 6 + 12 + 12 + 12 + 24 + 24 + 6 + 6 + 6 + 6 ≤ 28000; omega⟩ (fun r9 V H locs h9 hP hD hS => ?_)
  obtain ⟨rfl, hO⟩ := h9
  refine s1_is (z := -1001) (z_reasonM) ?_
  refine lv_sipush (v := -1001) hx hb dL_refused_572 (by decide) ?_
  refine lv_icmp_ne (tgt := 639) hx hb dL_refused_575 (by decide) (fun h9 => absurd (rfl) h9) (fun _ => ?_)
  refine lv_aload_n hx hb dL_refused_578 rfl (lv_at hl 0 rfl) ?_
  refine lv_iconst (v := 5) hx hb dL_refused_579 (by decide) ?_
  refine ow_Si (As := [.ref at_, .int ((5 : Int32))]) (rest := []) ⟨hx, hb, hml, hown, hts⟩ (oL_line l hst D y H.size at_ V 5 hO) (vx_cwSW 2 hts gL_refused_L_line rfl rfl rfl (by decide +kernel) ⟨(Nat.le_of_ble_eq_true rfl), (Nat.le_of_ble_eq_true rfl)⟩) hK hP hD hS hA hZ hN hJ rfl hl.1 rfl (Nat.le_of_ble_eq_true rfl) dL_refused_580 ⟨by show C + 3 + 3 + 3 + 1 + 1 + 1 + 1 + 1 + 1 + 2 + 2 + 1 + 2 + 2 + 3 + 3 + 3 + 4 + 1 + 2 + 2 + 2 + 4 + 4 + 1 + 1 + 1 + 1 + 120 ≤ 5200; omega, by show S + 18 + 18 + 18 + 6 + 6 + 6 + 6 + 6 + 6 + 12 + 12 + 6 + 12 + 12 + 18 + 18 + 18 + 24 + 6 + 12 + 12 + 12 + 24 + 24 + 6 + 6 + 6 + 6 + 450 ≤ 28000; omega⟩ (fun r9 V H locs h9 hP hD hS => ?_)
  obtain ⟨-, rfl, hO⟩ := h9.resolve_left (fun z => absurd z.1 (by decide))
  refine lv_sipush (v := -1001) hx hb dL_refused_583 (by decide) ?_
  refine lv_icmp_ne (tgt := 639) hx hb dL_refused_586 (by decide) (fun h9 => absurd (rfl) h9) (fun _ => ?_)
  refine lv_aload_n hx hb dL_refused_589 rfl (lv_at hl 0 rfl) ?_
  refine lv_iconst (v := -1) hx hb dL_refused_590 (by decide) ?_
  refine ow_Si (As := [.ref at_, .int ((-1 : Int32))]) (rest := []) ⟨hx, hb, hml, hown, hts⟩ (oL_character3 l hst D y H.size at_ V (-1) hO (Or.inl (by decide))) (vx_cwSW 2 hts gL_refused_L_character rfl rfl rfl (by decide +kernel) ⟨(Nat.le_of_ble_eq_true rfl), (Nat.le_of_ble_eq_true rfl)⟩) hK hP hD hS hA hZ hN hJ rfl hl.1 rfl (Nat.le_of_ble_eq_true rfl) dL_refused_591 ⟨by show C + 3 + 3 + 3 + 1 + 1 + 1 + 1 + 1 + 1 + 2 + 2 + 1 + 2 + 2 + 3 + 3 + 3 + 4 + 1 + 2 + 2 + 2 + 4 + 4 + 1 + 1 + 1 + 1 + 120 + 1 ≤ 5200; omega, by show S + 18 + 18 + 18 + 6 + 6 + 6 + 6 + 6 + 6 + 12 + 12 + 6 + 12 + 12 + 18 + 18 + 18 + 24 + 6 + 12 + 12 + 12 + 24 + 24 + 6 + 6 + 6 + 6 + 450 + 6 ≤ 28000; omega⟩ (fun r9 V H locs h9 hP hD hS => ?_)
  obtain ⟨rfl, hO⟩ := h9
  refine lv_sipush (v := -1001) hx hb dL_refused_594 (by decide) ?_
  refine lv_icmp_ne (tgt := 639) hx hb dL_refused_597 (by decide) (fun h9 => absurd (rfl) h9) (fun _ => ?_)
  refine lv_aload_n hx hb dL_refused_600 rfl (lv_at hl 0 rfl) ?_
  refine lv_bipush (v := 120) hx hb dL_refused_601 (by decide) ?_
  refine ow_Si (As := [.ref at_, .int ((120 : Int32))]) (rest := []) ⟨hx, hb, hml, hown, hts⟩ (oL_character3 l hst D y H.size at_ V (120) hO (Or.inr (c120 (Ob_N hO)))) (vx_cwSW 2 hts gL_refused_L_character rfl rfl rfl (by decide +kernel) ⟨(Nat.le_of_ble_eq_true rfl), (Nat.le_of_ble_eq_true rfl)⟩) hK hP hD hS hA hZ hN hJ rfl hl.1 rfl (Nat.le_of_ble_eq_true rfl) dL_refused_603 ⟨by show C + 3 + 3 + 3 + 1 + 1 + 1 + 1 + 1 + 1 + 2 + 2 + 1 + 2 + 2 + 3 + 3 + 3 + 4 + 1 + 2 + 2 + 2 + 4 + 4 + 1 + 1 + 1 + 1 + 120 + 1 + 1 ≤ 5200; omega, by show S + 18 + 18 + 18 + 6 + 6 + 6 + 6 + 6 + 6 + 12 + 12 + 6 + 12 + 12 + 18 + 18 + 18 + 24 + 6 + 12 + 12 + 12 + 24 + 24 + 6 + 6 + 6 + 6 + 450 + 6 + 6 ≤ 28000; omega⟩ (fun r9 V H locs h9 hP hD hS => ?_)
  obtain ⟨rfl, hO⟩ := h9
  refine lv_sipush (v := -1001) hx hb dL_refused_606 (by decide) ?_
  refine lv_icmp_ne (tgt := 639) hx hb dL_refused_609 (by decide) (fun h9 => absurd (rfl) h9) (fun _ => ?_)
  refine lv_aload_n hx hb dL_refused_612 rfl (lv_at hl 0 rfl) ?_
  refine lv_bipush (v := 10) hx hb dL_refused_613 (by decide) ?_
  refine ow_Si (As := [.ref at_, .int ((10 : Int32))]) (rest := []) ⟨hx, hb, hml, hown, hts⟩ (oL_account l hst D y H.size at_ V ((10 : Int32)) hO) (vx_cwSW 2 hts gL_refused_L_account rfl rfl rfl (by decide +kernel) ⟨(Nat.le_of_ble_eq_true rfl), (Nat.le_of_ble_eq_true rfl)⟩) hK hP hD hS hA hZ hN hJ rfl hl.1 rfl (Nat.le_of_ble_eq_true rfl) dL_refused_615 ⟨by show C + 3 + 3 + 3 + 1 + 1 + 1 + 1 + 1 + 1 + 2 + 2 + 1 + 2 + 2 + 3 + 3 + 3 + 4 + 1 + 2 + 2 + 2 + 4 + 4 + 1 + 1 + 1 + 1 + 120 + 1 + 1 + 1 ≤ 5200; omega, by show S + 18 + 18 + 18 + 6 + 6 + 6 + 6 + 6 + 6 + 12 + 12 + 6 + 12 + 12 + 18 + 18 + 18 + 24 + 6 + 12 + 12 + 12 + 24 + 24 + 6 + 6 + 6 + 6 + 450 + 6 + 6 + 6 ≤ 28000; omega⟩ (fun r9 V H locs h9 hP hD hS => ?_)
  obtain ⟨rfl, hO⟩ := h9
  refine s1_is (z := -1001) (z_account10) ?_
  refine lv_sipush (v := -1001) hx hb dL_refused_618 (by decide) ?_
  refine lv_icmp_ne (tgt := 639) hx hb dL_refused_621 (by decide) (fun h9 => absurd (rfl) h9) (fun _ => ?_)
  refine lv_aload_n hx hb dL_refused_624 rfl (lv_at hl 0 rfl) ?_
  refine lv_iconst (v := -1) hx hb dL_refused_625 (by decide) ?_
  refine ow_Si (As := [.ref at_, .int ((-1 : Int32))]) (rest := []) ⟨hx, hb, hml, hown, hts⟩ (oL_account l hst D y H.size at_ V ((-1 : Int32)) hO) (vx_cwSW 2 hts gL_refused_L_account rfl rfl rfl (by decide +kernel) ⟨(Nat.le_of_ble_eq_true rfl), (Nat.le_of_ble_eq_true rfl)⟩) hK hP hD hS hA hZ hN hJ rfl hl.1 rfl (Nat.le_of_ble_eq_true rfl) dL_refused_626 ⟨by show C + 3 + 3 + 3 + 1 + 1 + 1 + 1 + 1 + 1 + 2 + 2 + 1 + 2 + 2 + 3 + 3 + 3 + 4 + 1 + 2 + 2 + 2 + 4 + 4 + 1 + 1 + 1 + 1 + 120 + 1 + 1 + 1 + 1 ≤ 5200; omega, by show S + 18 + 18 + 18 + 6 + 6 + 6 + 6 + 6 + 6 + 12 + 12 + 6 + 12 + 12 + 18 + 18 + 18 + 24 + 6 + 12 + 12 + 12 + 24 + 24 + 6 + 6 + 6 + 6 + 450 + 6 + 6 + 6 + 6 ≤ 28000; omega⟩ (fun r9 V H locs h9 hP hD hS => ?_)
  obtain ⟨rfl, hO⟩ := h9
  refine s1_is (z := -1001) (z_accountM) ?_
  refine lv_sipush (v := -1001) hx hb dL_refused_629 (by decide) ?_
  refine lv_icmp_ne (tgt := 639) hx hb dL_refused_632 (by decide) (fun h9 => absurd (rfl) h9) (fun _ => ?_)
  refine lv_iconst (v := 1) hx hb dL_refused_635 (by decide) ?_
  refine lv_goto (tgt := 640) hx hb dL_refused_636 (by decide) ?_
  refine lv_istore (lv' := [(5, .int ((1 : Int32))), (0, .ref at_), (1, .long (askV q)), (3, .int (nI n)), (4, .int (nI k))]) hx hb dL_refused_640 hl (by decide) rfl (fun ls hl => ?_)
  exact k0 _ _ (by omega) (by omega) _ _ _ (trivial) hO H locs hP hD hS ls (lv_sub hl [1, 2, 3, 4, 0] rfl)
set_option maxHeartbeats 4000000 in
set_option maxRecDepth 100000 in
theorem rf_3 {p : Program} {l : Launch} {e : Env} {s : State} {mi : MethodId} {args : Array Value} {below : List Frame} {meth : Method} {c : Code} {D : va_G} {y : Nat → ClassId} {A : Nat → Prop} {Q : State → Prop} {at_ : Nat}{q : Lad} {us : List Lad} {sv : Option Lad} {rs dt ix lf : Int32} {tx : Nat → Int32} (hst : l.stackTraces = false) (C0 : mC p l c mi s args D y A cL_refused 7 wsL_refused) (n k w9 : Nat) (hc : q.1 = nI n) (h0 : 0 < n) (hn24 : n ≤ 24) (hk9 : k ≤ 999) (hk0 : q.2.2.1 0 = nI k) (hpw : pw n q.2.2.1 (nI k) = some 0) (hw9 : w9 ≤ 99) (hw0 : q.2.2.2.1 0 = nI w9) (k0 : mW p l e (rmx 17 560 5200 28000) s mi args below meth c D y A at_ q us sv 4 ((nI 0)) 0 lf 0 tx (anyT) [] Q 7 717 [(0, .ref at_), (1, .long (askV q)), (3, .int (nI n)), (4, .int (nI k))] (2620) (13600)) : mW p l e (rmx 17 560 5200 28000) s mi args below meth c D y A at_ q us sv 1 0 0 lf 0 tx (anyT) [] Q 7 642 [(0, .ref at_), (1, .long (askV q)), (3, .int (nI n)), (4, .int (nI k)), (5, .int ((1 : Int32)))] (2600) (13500) := by
  obtain ⟨hx, hb, hml, hown, hts, hK, hA, hZ, hN, hJ, -⟩ := C0
  intro C S hC hS9 V NN TT hPT hO H locs hP hD hS ls hl
  have hin : inR 0 999 (nI k) = true := nI_inR (lo := 0) (hi := 999) (by omega) (by omega) (by omega)
  refine lv_aload_n hx hb dL_refused_642 rfl (lv_at hl 0 rfl) ?_
  refine lv_iload hx hb dL_refused_643 (lv_at hl 3 rfl) ?_
  refine lv_iconst (v := 0) hx hb dL_refused_645 (by decide) ?_
  refine ow_Si (As := [.ref at_, .int (nI k), .int ((0 : Int32))]) (rest := []) ⟨hx, hb, hml, hown, hts⟩ (oL_folderOf l hst D y H.size at_ V (nI k) ((0 : Int32)) hO) (vx_cwSW 3 hts gL_refused_L_folderOf rfl rfl rfl (by decide +kernel) ⟨(Nat.le_of_ble_eq_true rfl), (Nat.le_of_ble_eq_true rfl)⟩) hK hP hD hS hA hZ hN hJ rfl hl.1 rfl (Nat.le_of_ble_eq_true rfl) dL_refused_646 ⟨by show C + 3 ≤ 5200; omega, by show S + 18 ≤ 28000; omega⟩ (fun r9 V H locs h9 hP hD hS => ?_)
  obtain ⟨rfl, hO⟩ := h9
  refine s1_is (z := nI w9) ((z_weight hn24 hc hin hpw h0).trans hw0) ?_
  refine lv_istore (lv' := [(6, .int (nI w9)), (0, .ref at_), (1, .long (askV q)), (3, .int (nI n)), (4, .int (nI k)), (5, .int ((1 : Int32)))]) hx hb dL_refused_649 hl (by decide) rfl (fun ls hl => ?_)
  refine lv_iload hx hb dL_refused_651 (lv_at hl 5 rfl) ?_
  refine lv_if_eq (tgt := 709) hx hb dL_refused_653 (by decide) (fun h9 => absurd h9 (by decide)) (fun _ => ?_)
  refine lv_aload_n hx hb dL_refused_656 rfl (lv_at hl 1 rfl) ?_
  refine lv_iload hx hb dL_refused_657 (lv_at hl 4 rfl) ?_
  refine lv_iload hx hb dL_refused_659 (lv_at hl 0 rfl) ?_
  refine ow_Si (As := [.ref at_, .int (nI k), .int (nI w9)]) (rest := []) ⟨hx, hb, hml, hown, hts⟩ (oL_weigh l hst D y H.size at_ V (nI k) (nI w9) hO) (vx_cwSW 3 hts gL_refused_L_weigh rfl rfl rfl (by decide +kernel) ⟨(Nat.le_of_ble_eq_true rfl), (Nat.le_of_ble_eq_true rfl)⟩) hK hP hD hS hA hZ hN hJ rfl hl.1 rfl (Nat.le_of_ble_eq_true rfl) dL_refused_661 ⟨by show C + 3 + 1 ≤ 5200; omega, by show S + 18 + 6 ≤ 28000; omega⟩ (fun r9 V H locs h9 hP hD hS => ?_)
  have HR : ordR q 119 (nI k) (nI w9) 1 = (7, (nI w9)) := R_weigh hn24 hc hin (nI_inR (lo := 0) (hi := 99) (by omega) (by omega) (by omega)) hpw hw0
  obtain ⟨-, rfl, hO⟩ := h9.resolve_left (fun z => absurd z.1 (by rw [HR]; show ¬ (7 : Int32) = 0; decide))
  have hO := Ob_rd HR hO
  refine lv_sipush (v := -1001) hx hb dL_refused_664 (by decide) ?_
  refine lv_icmp_ne (tgt := 709) hx hb dL_refused_667 (by decide) (fun h9 => absurd (rfl) h9) (fun _ => ?_)
  refine lv_aload_n hx hb dL_refused_670 rfl (lv_at hl 1 rfl) ?_
  refine lv_bipush (v := 7) hx hb dL_refused_671 (by decide) ?_
  refine lv_iload hx hb dL_refused_673 (lv_at hl 0 rfl) ?_
  refine lv_iconst (v := 0) hx hb dL_refused_675 (by decide) ?_
  refine ow_Mi (As := [.ref at_, .int ((7 : Int32)), .int (nI w9), .int ((0 : Int32))]) (rest := []) ⟨hx, hb, hml, hown, hts⟩ (oL_is l hst D y H.size at_ V ((7 : Int32)) (nI w9) ((0 : Int32)) hO) (va_cwS 4 hts gL_refused_L_is rfl rfl rfl (by decide +kernel) ⟨(Nat.le_of_ble_eq_true rfl), (Nat.le_of_ble_eq_true rfl)⟩) hK hP hD hS hA hZ hN hJ rfl hl.1 rfl (Nat.le_of_ble_eq_true rfl) dL_refused_676 ⟨by show C + 3 + 1 + 3 ≤ 5200; omega, by show S + 18 + 6 + 18 ≤ 28000; omega⟩ (fun r9 V H locs h9 hP hD hS => ?_)
  obtain ⟨rfl, hO⟩ := h9
  refine s1_is (z := 1) (isV_y z_r7.1 z_r7.2.1 z_r7.2.2) ?_
  refine lv_if_eq (tgt := 709) hx hb dL_refused_679 (by decide) (fun h9 => absurd h9 (by decide)) (fun _ => ?_)
  refine lv_aload_n hx hb dL_refused_682 rfl (lv_at hl 1 rfl) ?_
  refine lv_iload hx hb dL_refused_683 (lv_at hl 4 rfl) ?_
  refine lv_iconst (v := 0) hx hb dL_refused_685 (by decide) ?_
  refine ow_Si (As := [.ref at_, .int (nI k), .int ((0 : Int32))]) (rest := []) ⟨hx, hb, hml, hown, hts⟩ (oL_file l hst D y H.size at_ V (nI k) ((0 : Int32)) hO) (vx_cwSW 3 hts gL_refused_L_file rfl rfl rfl (by decide +kernel) ⟨(Nat.le_of_ble_eq_true rfl), (Nat.le_of_ble_eq_true rfl)⟩) hK hP hD hS hA hZ hN hJ rfl hl.1 rfl (Nat.le_of_ble_eq_true rfl) dL_refused_686 ⟨by show C + 3 + 1 + 3 + 1 ≤ 5200; omega, by show S + 18 + 6 + 18 + 6 ≤ 28000; omega⟩ (fun r9 V H locs h9 hP hD hS => ?_)
  have HR : ordR q 43 (nI k) ((0 : Int32)) 1 = (4, (nI 0)) := R_fil_there hn24 hc (by decide) hin (by decide) (by decide) hpw
  obtain ⟨-, rfl, hO⟩ := h9.resolve_left (fun z => absurd z.1 (by rw [HR]; show ¬ (4 : Int32) = 0; decide))
  have hO := Ob_rd HR hO
  refine lv_sipush (v := -1001) hx hb dL_refused_689 (by decide) ?_
  refine lv_icmp_ne (tgt := 709) hx hb dL_refused_692 (by decide) (fun h9 => absurd (rfl) h9) (fun _ => ?_)
  refine lv_aload_n hx hb dL_refused_695 rfl (lv_at hl 1 rfl) ?_
  refine lv_iconst (v := 4) hx hb dL_refused_696 (by decide) ?_
  refine lv_iconst (v := 0) hx hb dL_refused_697 (by decide) ?_
  refine lv_iconst (v := 0) hx hb dL_refused_698 (by decide) ?_
  refine ow_Mi (As := [.ref at_, .int ((4 : Int32)), .int ((0 : Int32)), .int ((0 : Int32))]) (rest := []) ⟨hx, hb, hml, hown, hts⟩ (oL_is l hst D y H.size at_ V ((4 : Int32)) ((0 : Int32)) ((0 : Int32)) hO) (va_cwS 4 hts gL_refused_L_is rfl rfl rfl (by decide +kernel) ⟨(Nat.le_of_ble_eq_true rfl), (Nat.le_of_ble_eq_true rfl)⟩) hK hP hD hS hA hZ hN hJ rfl hl.1 rfl (Nat.le_of_ble_eq_true rfl) dL_refused_699 ⟨by show C + 3 + 1 + 3 + 1 + 3 ≤ 5200; omega, by show S + 18 + 6 + 18 + 6 + 18 ≤ 28000; omega⟩ (fun r9 V H locs h9 hP hD hS => ?_)
  obtain ⟨rfl, hO⟩ := h9
  refine s1_is (z := 1) (isV_y z_r4.1 z_r4.2.1 z_r4.2.2) ?_
  refine lv_if_eq (tgt := 709) hx hb dL_refused_702 (by decide) (fun h9 => absurd h9 (by decide)) (fun _ => ?_)
  refine lv_iconst (v := 1) hx hb dL_refused_705 (by decide) ?_
  refine lv_goto (tgt := 710) hx hb dL_refused_706 (by decide) ?_
  refine lv_istore (lv' := [(5, .int ((1 : Int32))), (6, .int (nI w9)), (0, .ref at_), (1, .long (askV q)), (3, .int (nI n)), (4, .int (nI k))]) hx hb dL_refused_710 hl (by decide) rfl (fun ls hl => ?_)
  refine lv_iload hx hb dL_refused_712 (lv_at hl 0 rfl) ?_
  refine lv_if_eq (tgt := 844) hx hb dL_refused_714 (by decide) (fun h9 => absurd h9 (by decide)) (fun _ => ?_)
  exact k0 _ _ (by omega) (by omega) _ _ _ (trivial) hO H locs hP hD hS ls (lv_sub hl [2, 3, 4, 5] rfl)
set_option maxHeartbeats 4000000 in
set_option maxRecDepth 100000 in
theorem rf_4 {p : Program} {l : Launch} {e : Env} {s : State} {mi : MethodId} {args : Array Value} {below : List Frame} {meth : Method} {c : Code} {D : va_G} {y : Nat → ClassId} {A : Nat → Prop} {Q : State → Prop} {at_ : Nat}{q : Lad} {us : List Lad} {sv : Option Lad} {rs dt ix lf : Int32} {tx : Nat → Int32} (hst : l.stackTraces = false) (C0 : mC p l c mi s args D y A cL_refused 7 wsL_refused) (n k w9 : Nat) (hc : q.1 = nI n) (h0 : 0 < n) (hn24 : n ≤ 24) (hk9 : k ≤ 999) (hk0 : q.2.2.1 0 = nI k) (hpw : pw n q.2.2.1 (nI k) = some 0) (hw9 : w9 ≤ 99) (hw0 : q.2.2.2.1 0 = nI w9) {ad : Nat → Nat} (hKS : kS ad A s s.heap) (k0 : ∀ tx2 : Nat → Int32, mW p l e (rmx 17 560 5200 28000) s mi args below meth c D y A at_ q us sv 1 0 3 (-1) 0 tx2 (anyT) [] Q 7 778 [(0, .ref at_), (1, .long (askV q)), (3, .int (nI n)), (4, .int (nI k))] (2800) (14600)) : mW p l e (rmx 17 560 5200 28000) s mi args below meth c D y A at_ q us sv 4 ((nI 0)) 0 lf 0 tx (anyT) [] Q 7 717 [(0, .ref at_), (1, .long (askV q)), (3, .int (nI n)), (4, .int (nI k))] (2620) (13600) := by
  obtain ⟨hx, hb, hml, hown, hts, hK, hA, hZ, hN, hJ, -⟩ := C0
  intro C S hC hS9 V NN TT hPT hO H locs hP hD hS ls hl
  have hin : inR 0 999 (nI k) = true := nI_inR (lo := 0) (hi := 999) (by omega) (by omega) (by omega)
  refine lv_aload_n hx hb dL_refused_717 rfl (lv_at hl 0 rfl) ?_
  refine va_ldcwS hx hb hown (hKS 5 _ rfl).1 dL_refused_718 ?_
  refine ow_Rd (As := [.ref at_, .ref (ad 5)]) (rest := []) (V := V) (E := []) ⟨hx, hb, hml, hown, hts⟩ (oL_reads l hst D y H.size at_ V (ad 5) 1 (fun j => ([113] : List Nat).getD j 0) (by decide) hO) (va_cwS 2 hts gL_refused_L_reads rfl rfl rfl (by decide +kernel) ⟨(Nat.le_of_ble_eq_true rfl), (Nat.le_of_ble_eq_true rfl)⟩) hK hP hD hS hA hZ hN hJ ((hKS 5 _ rfl).2.any hS (oc_F hD hS hA)) rfl hl.1 rfl (Nat.le_of_ble_eq_true rfl) dL_refused_721 ⟨by show C + 62 ≤ 5200; omega, by show S + 400 ≤ 28000; omega⟩ (fun r9 V H locs h9 hP hD hS => ?_)
  obtain ⟨h9r, hO⟩ := rd_q h9
  refine s1_is h9r ?_
  refine lv_sipush (v := -1001) hx hb dL_refused_724 (by decide) ?_
  refine lv_icmp_ne (tgt := 844) hx hb dL_refused_727 (by decide) (fun h9 => absurd (rfl) h9) (fun _ => ?_)
  refine lv_aload_n hx hb dL_refused_730 rfl (lv_at hl 0 rfl) ?_
  obtain ⟨fs, he⟩ := Ob_head hO
  refine ow_V (As := []) (rest := []) ⟨hx, hb, hml, hown, hts⟩ (o_faultPosition l hst D y H.size at_ V hO) (cwV 0 hts gL_refused_X7_faultPosition rfl rfl rfl (by decide +kernel) ⟨(Nat.le_of_ble_eq_true rfl), (Nat.le_of_ble_eq_true rfl)⟩) he hK hP hD hS hA hZ hN hJ rfl hl.1 rfl (Nat.le_of_ble_eq_true rfl) dL_refused_731 ⟨by show C + 62 + 0 ≤ 5200; omega, by show S + 400 + 0 ≤ 28000; omega⟩ (fun hk => absurd rfl hk) (fun _ r9 V H locs h9 hP hD hS => ?_)
  obtain ⟨rfl, hO⟩ := h9
  refine lv_if_ne (tgt := 844) hx hb dL_refused_734 (by decide) (fun h9 => absurd (rfl) h9) (fun _ => ?_)
  refine lv_aload_n hx hb dL_refused_737 rfl (lv_at hl 0 rfl) ?_
  refine lv_iconst (v := 4) hx hb dL_refused_738 (by decide) ?_
  refine lv_iconst (v := 0) hx hb dL_refused_739 (by decide) ?_
  refine lv_iconst (v := 0) hx hb dL_refused_740 (by decide) ?_
  refine ow_Mi (As := [.ref at_, .int ((4 : Int32)), .int ((0 : Int32)), .int ((0 : Int32))]) (rest := []) ⟨hx, hb, hml, hown, hts⟩ (oL_is l hst D y H.size at_ V ((4 : Int32)) ((0 : Int32)) ((0 : Int32)) hO) (va_cwS 4 hts gL_refused_L_is rfl rfl rfl (by decide +kernel) ⟨(Nat.le_of_ble_eq_true rfl), (Nat.le_of_ble_eq_true rfl)⟩) hK hP hD hS hA hZ hN hJ rfl hl.1 rfl (Nat.le_of_ble_eq_true rfl) dL_refused_741 ⟨by show C + 62 + 0 + 3 ≤ 5200; omega, by show S + 400 + 0 + 18 ≤ 28000; omega⟩ (fun r9 V H locs h9 hP hD hS => ?_)
  obtain ⟨rfl, hO⟩ := h9
  refine s1_is (z := 1) (isV_y z_r4.1 z_r4.2.1 z_r4.2.2) ?_
  refine lv_if_eq (tgt := 844) hx hb dL_refused_744 (by decide) (fun h9 => absurd h9 (by decide)) (fun _ => ?_)
  refine lv_aload_n hx hb dL_refused_747 rfl (lv_at hl 0 rfl) ?_
  refine va_ldcwS hx hb hown (hKS 6 _ rfl).1 dL_refused_748 ?_
  refine ow_Rd (As := [.ref at_, .ref (ad 6)]) (rest := []) (V := V) (E := []) ⟨hx, hb, hml, hown, hts⟩ (oL_reads l hst D y H.size at_ V (ad 6) 8 (fun j => ([116, 59, 116, 59, 116, 59, 102, 48] : List Nat).getD j 0) (by decide) hO) (va_cwS 2 hts gL_refused_L_reads rfl rfl rfl (by decide +kernel) ⟨(Nat.le_of_ble_eq_true rfl), (Nat.le_of_ble_eq_true rfl)⟩) hK hP hD hS hA hZ hN hJ ((hKS 6 _ rfl).2.any hS (oc_F hD hS hA)) rfl hl.1 rfl (Nat.le_of_ble_eq_true rfl) dL_refused_751 ⟨by show C + 62 + 0 + 3 + 62 ≤ 5200; omega, by show S + 400 + 0 + 18 + 400 ≤ 28000; omega⟩ (fun r9 V H locs h9 hP hD hS => ?_)
  obtain ⟨h9r, hO⟩ := rd_T h9
  refine s1_is h9r ?_
  refine lv_sipush (v := -1002) hx hb dL_refused_754 (by decide) ?_
  refine lv_icmp_ne (tgt := 844) hx hb dL_refused_757 (by decide) (fun h9 => absurd (rfl) h9) (fun _ => ?_)
  refine lv_aload_n hx hb dL_refused_760 rfl (lv_at hl 0 rfl) ?_
  refine lv_iconst (v := 1) hx hb dL_refused_761 (by decide) ?_
  refine lv_iconst (v := 0) hx hb dL_refused_762 (by decide) ?_
  refine lv_iconst (v := 3) hx hb dL_refused_763 (by decide) ?_
  refine ow_Mi (As := [.ref at_, .int ((1 : Int32)), .int ((0 : Int32)), .int ((3 : Int32))]) (rest := []) ⟨hx, hb, hml, hown, hts⟩ (oL_is l hst D y H.size at_ V ((1 : Int32)) ((0 : Int32)) ((3 : Int32)) hO) (va_cwS 4 hts gL_refused_L_is rfl rfl rfl (by decide +kernel) ⟨(Nat.le_of_ble_eq_true rfl), (Nat.le_of_ble_eq_true rfl)⟩) hK hP hD hS hA hZ hN hJ rfl hl.1 rfl (Nat.le_of_ble_eq_true rfl) dL_refused_764 ⟨by show C + 62 + 0 + 3 + 62 + 3 ≤ 5200; omega, by show S + 400 + 0 + 18 + 400 + 18 ≤ 28000; omega⟩ (fun r9 V H locs h9 hP hD hS => ?_)
  obtain ⟨rfl, hO⟩ := h9
  refine s1_is (z := 1) (isV_y z_r1.1 z_r1.2.1 z_r1.2.2) ?_
  refine lv_if_eq (tgt := 844) hx hb dL_refused_767 (by decide) (fun h9 => absurd h9 (by decide)) (fun _ => ?_)
  refine lv_aload_n hx hb dL_refused_770 rfl (lv_at hl 0 rfl) ?_
  obtain ⟨fs, he⟩ := Ob_head hO
  refine ow_V (As := []) (rest := []) ⟨hx, hb, hml, hown, hts⟩ (o_faultPosition l hst D y H.size at_ V hO) (cwV 0 hts gL_refused_X7_faultPosition rfl rfl rfl (by decide +kernel) ⟨(Nat.le_of_ble_eq_true rfl), (Nat.le_of_ble_eq_true rfl)⟩) he hK hP hD hS hA hZ hN hJ rfl hl.1 rfl (Nat.le_of_ble_eq_true rfl) dL_refused_771 ⟨by show C + 62 + 0 + 3 + 62 + 3 + 0 ≤ 5200; omega, by show S + 400 + 0 + 18 + 400 + 18 + 0 ≤ 28000; omega⟩ (fun hk => absurd rfl hk) (fun _ r9 V H locs h9 hP hD hS => ?_)
  obtain ⟨rfl, hO⟩ := h9
  refine lv_iconst (v := -1) hx hb dL_refused_774 (by decide) ?_
  refine lv_icmp_ne (tgt := 844) hx hb dL_refused_775 (by decide) (fun h9 => absurd (rfl) h9) (fun _ => ?_)
  exact k0 _ _ _ (by omega) (by omega) _ _ _ trivial hO H locs hP hD hS ls (lv_sub hl [0, 1, 2, 3] rfl)
set_option maxHeartbeats 4000000 in
set_option maxRecDepth 100000 in
theorem rf_5 {p : Program} {l : Launch} {e : Env} {s : State} {mi : MethodId} {args : Array Value} {below : List Frame} {meth : Method} {c : Code} {D : va_G} {y : Nat → ClassId} {A : Nat → Prop} {at_ : Nat}{q : Lad} {us : List Lad} {sv : Option Lad} {rs dt ix lf : Int32} {tx : Nat → Int32} {ad : Nat → Nat} {V0 : va_W} (hst : l.stackTraces = false) (C0 : mC p l c mi s args D y A cL_refused 7 wsL_refused) (n k w9 : Nat) (hc : q.1 = nI n) (h0 : 0 < n) (hn24 : n ≤ 24) (hk9 : k ≤ 999) (hk0 : q.2.2.1 0 = nI k) (hpw : pw n q.2.2.1 (nI k) = some 0) (hw9 : w9 ≤ 99) (hw0 : q.2.2.2.1 0 = nI w9) (hKS : kS ad A s s.heap) (hr : meth.sig.returnType = some .boolean) (hlocks : meth.locks = false) (hAe : va_A V0 s.heap.size = A) : mW p l e (rmx 17 560 5200 28000) s mi args below meth c D y A at_ q us sv 1 0 3 lf 0 tx (anyT) [] (MQ below (oQi D y 0 (fun r V' => r = 1 ∧ ∃ (rs dt ix lf : Int32) (tx : Nat → Int32) (NN : Nat) (TT : Nat → Nat), Ob y at_ q us sv rs dt ix lf 0 tx NN TT V') V0 s.heap.size) args s 5200 28000 (va_A V0 s.heap.size)) 7 778 [(0, .ref at_), (1, .long (askV q)), (3, .int (nI n)), (4, .int (nI k))] (2800) (14600) := by
  obtain ⟨hx, hb, hml, hown, hts, hK, hA, hZ, hN, hJ, -⟩ := C0
  intro C S hC hS9 V NN TT hPT hO H locs hP hD hS ls hl
  have hin : inR 0 999 (nI k) = true := nI_inR (lo := 0) (hi := 999) (by omega) (by omega) (by omega)
  have hk1 : k < 1000 := by omega
  refine lv_aload_n hx hb dL_refused_778 rfl (lv_at hl 0 rfl) ?_
  rw [List.append_nil] at hP hD
  refine va_new (ci := 1) (fs := [.null, .int 0, .int 0, .int 0]) (C := RJ4) (T := TJ4) (N := 4) hx hb hts iL_refused_J4 tyJ4 tyJ4_ok hown (hts (.classLink RL 262 RJ4) (List.mem_of_getElem? (i := 1) rfl)) (hts (.instantiable RJ4 4) (List.mem_of_getElem? (i := 2) rfl)) (hts (.initialized RJ4) (List.mem_of_getElem? (i := 3) rfl)) hK hP hD hS hA rfl (fun j hj => by rcases (show j = 0 ∨ j = 1 ∨ j = 2 ∨ j = 3 by omega) with rfl | rfl | rfl | rfl <;> rfl) (by show C + 1 ≤ 5200; omega) (by show S + 4 ≤ 28000; omega) dL_refused_779 (fun a H hP hD hS => ?_)
  have hP := P_sw hP
  have hD := D_sw hD
  refine lv_dup hx hb dL_refused_782 rfl ?_
  refine oe_I (As := []) (rest := [.ref a, .ref at_]) (F := V) ⟨hx, hb, hml, hown, hts⟩ (c_J4_init_da8c8 l D y H.size a) (cwI 0 hts gL_refused_J4_init_da8c8 rfl rfl rfl (hts (.initialized RJ4) (List.mem_of_getElem? (i := 3) rfl)) (hts (.methodLink RL 264 yJ4_init_da8c8) (List.mem_of_getElem? (i := 992) rfl)) (hts (.instanceMethod yJ4_init_da8c8) (List.mem_of_getElem? (i := 993) rfl)) rfl (by decide +kernel) ⟨(Nat.le_of_ble_eq_true rfl), (Nat.le_of_ble_eq_true rfl)⟩) hK hP hD hS hA hJ rfl hl.1 rfl (Nat.le_of_ble_eq_true rfl) dL_refused_783 ⟨by show C + 1 + 1 ≤ 5200; omega, by show S + 4 + 16 ≤ 28000; omega⟩ (fun u0 H locs hP hD hS => ?_)
  obtain ⟨v0, hv0⟩ : ∃ z, u0 0 = z := ⟨_, rfl⟩
  rw [hv0] at hP hD
  have hP : va_P D vwCl ([(a, .inr (1, [.ref v0, .int 0, .int 0, .int (nI (0))])), (v0, .inl (y 2, 16, .inl (fun _ => 0)))] ++ V) H := hP
  have hD : va_D A ([(a, .inr (1, [.ref v0, .int 0, .int 0, .int (nI (0))])), (v0, .inl (y 2, 16, .inl (fun _ => 0)))] ++ V) := hD
  have hL0 : sb_Lat (fun _ => 0) 0 (fun _ => 0) := fun j hj => absurd hj (Nat.not_lt_zero j)
  have hF0 : sb_Fit (fun _ => 0) := sb_fit0
  refine va_ldcwS hx hb hown (hKS 7 _ rfl).1 dL_refused_786 ?_
  refine oe_Sr (As := [.ref (ad 7)]) (rest := [.ref at_]) (F := V) ⟨hx, hb, hml, hown, hts⟩ (c_J4_append_15ec4 l D y H.size (ad 7) 1 (fun j => ([45] : List Nat).getD j 0) a v0 (0) 16 0 (fun _ => 0) (fun _ => 0) (by decide) (by omega) (by omega) hL0 hF0) (cwV 1 hts gL_refused_J4_append_15ec4 rfl rfl rfl (by decide +kernel) ⟨(Nat.le_of_ble_eq_true rfl), (Nat.le_of_ble_eq_true rfl)⟩) hK hP hD hS hA hJ (hKS 7 _ rfl).2 rfl rfl rfl hl.1 rfl (Nat.le_of_ble_eq_true rfl) dL_refused_789 ⟨by show C + 1 + 1 + 0 ≤ 5200; omega, by show S + 4 + 16 + 0 ≤ 28000; omega⟩ (fun u1 H locs hu1 hP hD hS => ?_)
  obtain ⟨v1, b1⟩ := u1
  obtain ⟨hL1, hF1⟩ := hu1
  have hP : va_P D vwCl ([(a, .inr (1, [.ref v1, .int 0, .int 0, .int (nI (0 + 1))])), (v1, .inl (y 2, 16, .inl (b1)))] ++ V) H := hP
  have hD : va_D A ([(a, .inr (1, [.ref v1, .int 0, .int 0, .int (nI (0 + 1))])), (v1, .inl (y 2, 16, .inl (b1)))] ++ V) := hD
  have hL1 : sb_Lat (sb_cat (fun _ => 0) (0) (fun j => ([45] : List Nat).getD j 0)) (0 + 1) b1 := hL1
  refine lv_iload hx hb dL_refused_792 (lv_at hl 3 rfl) ?_
  have hdg2 := dg3 (k := k) (hk1)
  refine oe_Vr (As := [.int (nI (k))]) (rest := [.ref at_]) (F := V) ⟨hx, hb, hml, hown, hts⟩ (a_int l D y H.size a v1 (0 + 1) (k) 0 (sb_cat (fun _ => 0) (0) (fun j => ([45] : List Nat).getD j 0)) (b1) (by omega) hL1 hF1 (hk1)) (cwV 1 hts gL_refused_J4_append_bf812 rfl rfl rfl (by decide +kernel) ⟨(Nat.le_of_ble_eq_true rfl), (Nat.le_of_ble_eq_true rfl)⟩) hK hP hD hS hA hJ rfl rfl rfl hl.1 rfl (Nat.le_of_ble_eq_true rfl) dL_refused_794 ⟨by show C + 1 + 1 + 0 + 0 ≤ 5200; omega, by show S + 4 + 16 + 0 + 0 ≤ 28000; omega⟩ (fun u2 H locs hu2 hP hD hS => ?_)
  obtain ⟨v2, b2⟩ := u2
  obtain ⟨hL2, hF2⟩ := hu2
  have hP : va_P D vwCl ([(a, .inr (1, [.ref v2, .int 0, .int 0, .int (nI (0 + 1 + sb_dg (k)))])), (v2, .inl (y 2, 16, .inl (b2)))] ++ V) H := hP
  have hD : va_D A ([(a, .inr (1, [.ref v2, .int 0, .int 0, .int (nI (0 + 1 + sb_dg (k)))])), (v2, .inl (y 2, 16, .inl (b2)))] ++ V) := hD
  have hL2 : sb_Lat (sb_cat (sb_cat (fun _ => 0) (0) (fun j => ([45] : List Nat).getD j 0)) (0 + 1) (sb_dec (k))) (0 + 1 + sb_dg (k)) b2 := hL2
  refine va_ldcwS hx hb hown (hKS 8 _ rfl).1 dL_refused_797 ?_
  refine oe_Sr (As := [.ref (ad 8)]) (rest := [.ref at_]) (F := V) ⟨hx, hb, hml, hown, hts⟩ (c_J4_append_15ec4 l D y H.size (ad 8) 2 (fun j => ([59, 45] : List Nat).getD j 0) a v2 (0 + 1 + sb_dg (k)) 16 0 (sb_cat (sb_cat (fun _ => 0) (0) (fun j => ([45] : List Nat).getD j 0)) (0 + 1) (sb_dec (k))) (b2) (by decide) (by omega) (by omega) hL2 hF2) (cwV 1 hts gL_refused_J4_append_15ec4 rfl rfl rfl (by decide +kernel) ⟨(Nat.le_of_ble_eq_true rfl), (Nat.le_of_ble_eq_true rfl)⟩) hK hP hD hS hA hJ (hKS 8 _ rfl).2 rfl rfl rfl hl.1 rfl (Nat.le_of_ble_eq_true rfl) dL_refused_800 ⟨by show C + 1 + 1 + 0 + 0 + 0 ≤ 5200; omega, by show S + 4 + 16 + 0 + 0 + 0 ≤ 28000; omega⟩ (fun u3 H locs hu3 hP hD hS => ?_)
  obtain ⟨v3, b3⟩ := u3
  obtain ⟨hL3, hF3⟩ := hu3
  have hP : va_P D vwCl ([(a, .inr (1, [.ref v3, .int 0, .int 0, .int (nI (0 + 1 + sb_dg (k) + 2))])), (v3, .inl (y 2, 16, .inl (b3)))] ++ V) H := hP
  have hD : va_D A ([(a, .inr (1, [.ref v3, .int 0, .int 0, .int (nI (0 + 1 + sb_dg (k) + 2))])), (v3, .inl (y 2, 16, .inl (b3)))] ++ V) := hD
  have hL3 : sb_Lat (sb_cat (sb_cat (sb_cat (fun _ => 0) (0) (fun j => ([45] : List Nat).getD j 0)) (0 + 1) (sb_dec (k))) (0 + 1 + sb_dg (k)) (fun j => ([59, 45] : List Nat).getD j 0)) (0 + 1 + sb_dg (k) + 2) b3 := hL3
  refine lv_iload hx hb dL_refused_803 (lv_at hl 3 rfl) ?_
  have hdg4 := dg3 (k := k) (hk1)
  refine oe_Vr (As := [.int (nI (k))]) (rest := [.ref at_]) (F := V) ⟨hx, hb, hml, hown, hts⟩ (a_int l D y H.size a v3 (0 + 1 + sb_dg (k) + 2) (k) 0 (sb_cat (sb_cat (sb_cat (fun _ => 0) (0) (fun j => ([45] : List Nat).getD j 0)) (0 + 1) (sb_dec (k))) (0 + 1 + sb_dg (k)) (fun j => ([59, 45] : List Nat).getD j 0)) (b3) (by omega) hL3 hF3 (hk1)) (cwV 1 hts gL_refused_J4_append_bf812 rfl rfl rfl (by decide +kernel) ⟨(Nat.le_of_ble_eq_true rfl), (Nat.le_of_ble_eq_true rfl)⟩) hK hP hD hS hA hJ rfl rfl rfl hl.1 rfl (Nat.le_of_ble_eq_true rfl) dL_refused_805 ⟨by show C + 1 + 1 + 0 + 0 + 0 + 0 ≤ 5200; omega, by show S + 4 + 16 + 0 + 0 + 0 + 0 ≤ 28000; omega⟩ (fun u4 H locs hu4 hP hD hS => ?_)
  obtain ⟨v4, b4⟩ := u4
  obtain ⟨hL4, hF4⟩ := hu4
  have hP : va_P D vwCl ([(a, .inr (1, [.ref v4, .int 0, .int 0, .int (nI (0 + 1 + sb_dg (k) + 2 + sb_dg (k)))])), (v4, .inl (y 2, 16, .inl (b4)))] ++ V) H := hP
  have hD : va_D A ([(a, .inr (1, [.ref v4, .int 0, .int 0, .int (nI (0 + 1 + sb_dg (k) + 2 + sb_dg (k)))])), (v4, .inl (y 2, 16, .inl (b4)))] ++ V) := hD
  have hL4 : sb_Lat (sb_cat (sb_cat (sb_cat (sb_cat (fun _ => 0) (0) (fun j => ([45] : List Nat).getD j 0)) (0 + 1) (sb_dec (k))) (0 + 1 + sb_dg (k)) (fun j => ([59, 45] : List Nat).getD j 0)) (0 + 1 + sb_dg (k) + 2) (sb_dec (k))) (0 + 1 + sb_dg (k) + 2 + sb_dg (k)) b4 := hL4
  refine oe_Vr (As := []) (rest := [.ref at_]) (F := V) ⟨hx, hb, hml, hown, hts⟩ (c_J4_toString_0e30d l D y H.size a v4 (0 + 1 + sb_dg (k) + 2 + sb_dg (k)) 16 0 (b4) (by omega) (by decide) hF4) (cwV 0 hts gL_refused_J4_toString_0e30d rfl rfl rfl (by decide +kernel) ⟨(Nat.le_of_ble_eq_true rfl), (Nat.le_of_ble_eq_true rfl)⟩) hK hP hD hS hA hJ rfl rfl rfl hl.1 rfl (Nat.le_of_ble_eq_true rfl) dL_refused_808 ⟨by show C + 1 + 1 + 0 + 0 + 0 + 0 + 2 ≤ 5200; omega, by show S + 4 + 16 + 0 + 0 + 0 + 0 + (0 + 1 + sb_dg (k) + 2 + sb_dg (k) + 4) ≤ 28000; omega⟩ (fun us9 H locs hus hP hD hS => ?_)
  obtain ⟨sa, tv, bs9⟩ := us9
  have hP : va_P D vwCl (V ++ [(a, .inr (1, [.ref v4, .int 0, .int 0, .int (nI (0 + 1 + sb_dg (k) + 2 + sb_dg (k)))])), (v4, .inl (y 2, 16, .inl (b4))), (sa, .inr (0, [.ref tv, .int 0, .int 0, .int 0])), (tv, .inl (y 2, 0 + 1 + sb_dg (k) + 2 + sb_dg (k), .inl bs9))]) H := P_sw hP
  have hD : va_D A (V ++ [(a, .inr (1, [.ref v4, .int 0, .int 0, .int (nI (0 + 1 + sb_dg (k) + 2 + sb_dg (k)))])), (v4, .inl (y 2, 16, .inl (b4))), (sa, .inr (0, [.ref tv, .int 0, .int 0, .int 0])), (tv, .inl (y 2, 0 + 1 + sb_dg (k) + 2 + sb_dg (k), .inl bs9))]) := D_sw hD
  refine ow_Rd (As := [.ref at_, .ref sa]) (rest := []) (V := V) (E := [(a, .inr (1, [.ref v4, .int 0, .int 0, .int (nI (0 + 1 + sb_dg (k) + 2 + sb_dg (k)))])), (v4, .inl (y 2, 16, .inl (b4))), (sa, .inr (0, [.ref tv, .int 0, .int 0, .int 0])), (tv, .inl (y 2, 0 + 1 + sb_dg (k) + 2 + sb_dg (k), .inl bs9))]) ⟨hx, hb, hml, hown, hts⟩ (oL_reads l hst D y H.size at_ V sa (0 + 1 + sb_dg (k) + 2 + sb_dg (k)) (sb_cat (sb_cat (sb_cat (sb_cat (fun _ => 0) (0) (fun j => ([45] : List Nat).getD j 0)) (0 + 1) (sb_dec (k))) (0 + 1 + sb_dg (k)) (fun j => ([59, 45] : List Nat).getD j 0)) (0 + 1 + sb_dg (k) + 2) (sb_dec (k))) (by omega) hO) (va_cwS 2 hts gL_refused_L_reads rfl rfl rfl (by decide +kernel) ⟨(Nat.le_of_ble_eq_true rfl), (Nat.le_of_ble_eq_true rfl)⟩) hK hP hD hS hA hZ hN hJ (fun U hW => (strC_of hts iL_refused_J0 hK hP hD 2 3 rfl rfl (fun k hk => ⟨(hL4 k hk).1, (hus k hk).trans (hL4 k hk).2⟩)).moved hW.alike) rfl hl.1 rfl (Nat.le_of_ble_eq_true rfl) dL_refused_811 ⟨by show C + 1 + 1 + 0 + 0 + 0 + 0 + 2 + 62 ≤ 5200; omega, by show S + 4 + 16 + 0 + 0 + 0 + 0 + (0 + 1 + sb_dg (k) + 2 + sb_dg (k) + 4) + 400 ≤ 28000; omega⟩ (fun r9 V H locs h9 hP hD hS => ?_)
  obtain ⟨h9r, hO⟩ := rd_D hc h0 hk1 hk0 hn24 (fun j hj => txD_at hk1 j hj) h9
  refine s1_is h9r ?_
  have hP := hP.l
  have hD := hD.l
  have hP : va_P D vwCl (V ++ []) H := by rw [List.append_nil]; exact hP
  have hD : va_D A (V ++ []) := by rw [List.append_nil]; exact hD
  refine lv_sipush (v := -1002) hx hb dL_refused_814 (by decide) ?_
  refine lv_icmp_ne (tgt := 844) hx hb dL_refused_817 (by decide) (fun h9 => absurd (rfl) h9) (fun _ => ?_)
  refine lv_aload_n hx hb dL_refused_820 rfl (lv_at hl 0 rfl) ?_
  refine lv_iconst (v := 3) hx hb dL_refused_821 (by decide) ?_
  refine lv_iload hx hb dL_refused_822 (lv_at hl 3 rfl) ?_
  refine lv_iconst (v := 1) hx hb dL_refused_824 (by decide) ?_
  refine ow_Mi (As := [.ref at_, .int ((3 : Int32)), .int (nI k), .int ((1 : Int32))]) (rest := []) ⟨hx, hb, hml, hown, hts⟩ (oL_is l hst D y H.size at_ V ((3 : Int32)) (nI k) ((1 : Int32)) hO) (va_cwS 4 hts gL_refused_L_is rfl rfl rfl (by decide +kernel) ⟨(Nat.le_of_ble_eq_true rfl), (Nat.le_of_ble_eq_true rfl)⟩) hK hP hD hS hA hZ hN hJ rfl hl.1 rfl (Nat.le_of_ble_eq_true rfl) dL_refused_825 ⟨by show C + 1 + 1 + 0 + 0 + 0 + 0 + 2 + 62 + 3 ≤ 5200; omega, by show S + 4 + 16 + 0 + 0 + 0 + 0 + (0 + 1 + sb_dg (k) + 2 + sb_dg (k) + 4) + 400 + 18 ≤ 28000; omega⟩ (fun r9 V H locs h9 hP hD hS => ?_)
  obtain ⟨rfl, hO⟩ := h9
  refine s1_is (z := 1) (isV_y z_r3.1 z_r3.2.1 z_r3.2.2) ?_
  refine lv_if_eq (tgt := 844) hx hb dL_refused_828 (by decide) (fun h9 => absurd h9 (by decide)) (fun _ => ?_)
  refine lv_aload_n hx hb dL_refused_831 rfl (lv_at hl 0 rfl) ?_
  refine ow_Ml (As := [.ref at_]) (rest := []) ⟨hx, hb, hml, hown, hts⟩ (oL_asks l hst D y H.size at_ V hO) (va_cwS 1 hts gL_refused_L_asks rfl rfl rfl (by decide +kernel) ⟨(Nat.le_of_ble_eq_true rfl), (Nat.le_of_ble_eq_true rfl)⟩) hK hP hD hS hA hZ hN hJ rfl hl.1 rfl (Nat.le_of_ble_eq_true rfl) dL_refused_832 ⟨by show C + 1 + 1 + 0 + 0 + 0 + 0 + 2 + 62 + 3 + 2300 ≤ 5200; omega, by show S + 4 + 16 + 0 + 0 + 0 + 0 + (0 + 1 + sb_dg (k) + 2 + sb_dg (k) + 4) + 400 + 18 + 12000 ≤ 28000; omega⟩ (fun r9 V H locs h9 hP hD hS => ?_)
  obtain ⟨rfl, N9, T9, hO⟩ := h9
  refine lv_lload_n hx hb dL_refused_835 rfl (lv_at hl 1 rfl) ?_
  refine W.lcmp hx hb dL_refused_836 ?_
  refine lv_if_ne (tgt := 844) hx hb dL_refused_837 (by decide) (fun h9 => absurd ((lg_cmp_eq _ _).mpr rfl) h9) (fun _ => ?_)
  refine lv_iconst (v := 1) hx hb dL_refused_840 (by decide) ?_
  refine lv_goto (tgt := 845) hx hb dL_refused_841 (by decide) ?_
  refine W.widen (k := 5200) (n := 28000) (by omega) (by omega) ?_
  exact omret_z hx hb hr rfl hlocks hAe hK hP hD hS ⟨rfl, _, _, _, _, _, _, _, hO⟩ dL_refused_845
set_option maxHeartbeats 4000000 in
set_option maxRecDepth 100000 in
theorem oL_refused (l : Launch) (hst : l.stackTraces = false) (D : va_G) (y : Nat → ClassId) (sz at_ : Nat) {q : Lad} {us : List Lad} {sv : Option Lad} {rs dt ix lf : Int32} {tx : Nat → Int32} {NN : Nat} {TT : Nat → Nat} (V : va_W) (ad : Nat → Nat) (n : Nat) (hc : q.1 = nI n) (h0 : 0 < n) (hn24 : n ≤ 24) (hO : Ob y at_ q us sv rs dt ix lf 0 tx NN TT V) : Met l yL_refused wsL_refused (rmx 17 560 5200 28000) (klP D y V sz [.ref at_] ad) (oQi D y 0 (fun r V' => r = 1 ∧ ∃ (rs dt ix lf : Int32) (tx : Nat → Int32) (NN : Nat) (TT : Nat → Nat), Ob y at_ q us sv rs dt ix lf 0 tx NN TT V') V sz) 5200 28000 (va_A V sz) := by
  refine Met.ofW (cc := cL_refused) (maxL := 7) (ret := (some .boolean)) (by decide) rfl ?_
  intro p e s mi args below meth c s₁ B hml hv
  obtain ⟨hav, hsz, hP, hK, hD0, hZ, hN, hJ, hKS⟩ := hv
  have hx := B.exec
  have hb := B.bytes
  have hr := B.returns
  have hts := atoms_spec (ws := wsL_refused) B.pre
  have hown : s.vm.findClass RL = some mi.cls := findClass_of_methodNamed B.named
  have hlocks := B.notSynchronized
  subst hsz
  have hD := hD0.self (sz := s.heap.size)
  obtain ⟨A, hAe⟩ : ∃ A : Nat → Prop, va_A V s.heap.size = A := ⟨_, rfl⟩
  rw [hAe] at hD hZ hJ hKS
  have hA : ∀ q, s.heap.size ≤ q → A q := fun q h => by rw [← hAe]; exact Or.inr h
  have hS : va_S A s.heap s.heap [] := va_S.rf
  have hP : va_P D vwCl (V ++ []) s.heap := by rw [List.append_nil]; exact hP
  have hD : va_D A (V ++ []) := by rw [List.append_nil]; exact hD
  have C0 : mC p l c mi s args D y A cL_refused 7 wsL_refused := ⟨hx, hb, hml, hown, hts, hK, hA, hZ, hN, hJ, hst⟩
  obtain ⟨k, w9, hk9, hk0, hpw, hw9, hw0⟩ := GL_first (Ob_GL hO) hn24 hc h0
  have k0 := rf_1 (p := p) (e := e) (below := below) (meth := meth) (q := q) (us := us) (sv := sv) (rs := rs) (dt := dt) (ix := ix) (lf := lf) (tx := tx) (at_ := at_) hst C0 n k w9 hc h0 hn24 hk9 hk0 hpw hw9 hw0 (rf_2 (rs := 0) (dt := 0) (ix := 0) hst C0 n k w9 hc h0 hn24 hk9 hk0 hpw hw9 hw0 (rf_3 (rs := 0) (dt := 0) (ix := 0) hst C0 n k w9 hc h0 hn24 hk9 hk0 hpw hw9 hw0 (rf_4 (rs := 0) (dt := 0) (ix := 0) hst C0 n k w9 hc h0 hn24 hk9 hk0 hpw hw9 hw0 hKS (fun tx2 => rf_5 (rs := 0) (dt := 0) (ix := 0) hst C0 n k w9 hc h0 hn24 hk9 hk0 hpw hw9 hw0 hKS hr hlocks hAe))))
  refine W_entry hav (Nat.le_of_ble_eq_true rfl) (fun ls hl => ?_)
  exact k0 0 0 (Nat.le_refl 0) (Nat.le_refl 0) V NN TT trivial hO s.heap [] hP hD hS ls hl
