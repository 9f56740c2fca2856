/-! the first archive -/
set_option maxHeartbeats 4000000 in
set_option maxRecDepth 100000 in
theorem le_A {p : Program} {l : Launch} {e : Env} {s : State} {mi : MethodId} {args : Array Value} {below : List Frame} {meth : Method} {c : Code} {D : va_G} {y : Nat → ClassId} {A : Nat → Prop} {Q : State → Prop} {at_ : Nat} {b : Nat} {tx : Nat → Int32} (hst : l.stackTraces = false) (C0 : mC p l c mi s args D y A cL_law 11 wsL_law) (k0 : mW p l e (rmx 2048 94400 739810 6872417) s mi args below meth c D y A at_ ((gq 0)) ((usq 0)) ((some lad0)) 0 0 0 (-1) 0 tx (anyT) [] Q 11 64 [(0, .ref b), (1, .ref at_), (2, .int (nI 0))] (80) (1100)) : mW p l e (rmx 2048 94400 739810 6872417) s mi args below meth c D y A at_ lad0 [] none 0 0 0 (-1) 0 tx (anyT) [] Q 11 8 [(0, .ref b), (1, .ref at_)] (70) (1030) := by
  obtain ⟨hx, hb, hml, hown, hts, hK, hA, hZ, hN, hJ, -⟩ := C0
  intro C S hC hS9 V NN TT hPT hO H locs hP hD hS ls hl
  refine lv_aload_n hx hb dL_law_8 rfl (lv_at hl 1 rfl) ?_
  refine ow_Si (As := [.ref at_]) (rest := []) ⟨hx, hb, hml, hown, hts⟩ (oL_undo l hst D y H.size at_ V  hO) (vx_cwSW 1 hts gL_law_L_undo rfl rfl rfl (by decide +kernel) ⟨(Nat.le_of_ble_eq_true rfl), (Nat.le_of_ble_eq_true rfl)⟩) hK hP hD hS hA hZ hN hJ rfl hl.1 rfl (Nat.le_of_ble_eq_true rfl) dL_law_9 ⟨by show C + 1 ≤ 739810; omega, by show S + 6 ≤ 6872417; omega⟩ (fun r9 V H locs h9 hP hD hS => ?_)
  obtain ⟨-, rfl, hO⟩ := h9.resolve_left (fun z => by obtain ⟨q2, vs, z, -⟩ := z; exact nomatch z)
  refine lv_sipush (v := -1001) hx hb dL_law_12 (by decide) ?_
  refine lv_icmp_ne (tgt := 60) hx hb dL_law_15 (by decide) (fun h9 => absurd (rfl) h9) (fun _ => ?_)
  refine lv_aload_n hx hb dL_law_18 rfl (lv_at hl 1 rfl) ?_
  refine ow_Si (As := [.ref at_]) (rest := []) ⟨hx, hb, hml, hown, hts⟩ (oL_restore l hst D y H.size at_ V  hO) (vx_cwSW 1 hts gL_law_L_restore rfl rfl rfl (by decide +kernel) ⟨(Nat.le_of_ble_eq_true rfl), (Nat.le_of_ble_eq_true rfl)⟩) hK hP hD hS hA hZ hN hJ rfl hl.1 rfl (Nat.le_of_ble_eq_true rfl) dL_law_19 ⟨by show C + 1 + 1 ≤ 739810; omega, by show S + 6 + 6 ≤ 6872417; omega⟩ (fun r9 V H locs h9 hP hD hS => ?_)
  obtain ⟨-, rfl, hO⟩ := h9.resolve_left (fun z => by obtain ⟨q2, z, -⟩ := z; exact nomatch z)
  refine lv_sipush (v := -1001) hx hb dL_law_22 (by decide) ?_
  refine lv_icmp_ne (tgt := 60) hx hb dL_law_25 (by decide) (fun h9 => absurd (rfl) h9) (fun _ => ?_)
  refine lv_aload_n hx hb dL_law_28 rfl (lv_at hl 1 rfl) ?_
  obtain ⟨fs, he⟩ := Ob_head hO
  refine ow_V (As := []) (rest := []) ⟨hx, hb, hml, hown, hts⟩ (o_save l hst D y H.size at_ V hO) (cwV 0 hts gL_law_X7_save rfl rfl rfl (by decide +kernel) ⟨(Nat.le_of_ble_eq_true rfl), (Nat.le_of_ble_eq_true rfl)⟩) he hK hP hD hS hA hZ hN hJ rfl hl.1 rfl (Nat.le_of_ble_eq_true rfl) dL_law_29 ⟨by show C + 1 + 1 + 0 ≤ 739810; omega, by show S + 6 + 6 + 0 ≤ 6872417; omega⟩ (fun hk => absurd rfl hk) (fun _ r9 V H locs h9 hP hD hS => ?_)
  obtain ⟨rfl, hO⟩ := h9
  refine lv_if_ne (tgt := 60) hx hb dL_law_32 (by decide) (fun h9 => absurd (rfl) h9) (fun _ => ?_)
  refine lv_aload_n hx hb dL_law_35 rfl (lv_at hl 1 rfl) ?_
  obtain ⟨fs, he⟩ := Ob_head hO
  refine ow_V (As := []) (rest := []) ⟨hx, hb, hml, hown, hts⟩ (o_toss l hst D y H.size at_ V hO) (cwV 0 hts gL_law_X7_toss rfl rfl rfl (by decide +kernel) ⟨(Nat.le_of_ble_eq_true rfl), (Nat.le_of_ble_eq_true rfl)⟩) he hK hP hD hS hA hZ hN hJ rfl hl.1 rfl (Nat.le_of_ble_eq_true rfl) dL_law_36 ⟨by show C + 1 + 1 + 0 + 1 ≤ 739810; omega, by show S + 6 + 6 + 0 + 6 ≤ 6872417; omega⟩ (fun hk => absurd (if_pos (R_toss (Ob_GL hO))) hk) (fun _ r9 V H locs h9 hP hD hS => ?_)
  rw [e_toss] at h9
  obtain ⟨rfl, -, -, -, hO⟩ := h9
  have hO : Ob y at_ (gq 0) (usq 0) (some lad0) 0 0 0 (-1) 0 tx _ _ V := hO
  refine lv_if_ne (tgt := 60) hx hb dL_law_39 (by decide) (fun h9 => absurd (rfl) h9) (fun _ => ?_)
  refine lv_aload_n hx hb dL_law_42 rfl (lv_at hl 1 rfl) ?_
  refine lv_iconst (v := 3) hx hb dL_law_43 (by decide) ?_
  refine ow_Si (As := [.ref at_, .int ((3 : Int32))]) (rest := []) ⟨hx, hb, hml, hown, hts⟩ (oL_account l hst D y H.size at_ V ((3 : Int32)) hO) (vx_cwSW 2 hts gL_law_L_account rfl rfl rfl (by decide +kernel) ⟨(Nat.le_of_ble_eq_true rfl), (Nat.le_of_ble_eq_true rfl)⟩) hK hP hD hS hA hZ hN hJ rfl hl.1 rfl (Nat.le_of_ble_eq_true rfl) dL_law_44 ⟨by show C + 1 + 1 + 0 + 1 + 1 ≤ 739810; omega, by show S + 6 + 6 + 0 + 6 + 6 ≤ 6872417; omega⟩ (fun r9 V H locs h9 hP hD hS => ?_)
  obtain ⟨rfl, hO⟩ := h9
  refine s1_is (z := 92) (by decide +kernel) ?_
  refine lv_bipush (v := 92) hx hb dL_law_47 (by decide) ?_
  refine lv_icmp_ne (tgt := 60) hx hb dL_law_49 (by decide) (fun h9 => absurd (rfl) h9) (fun _ => ?_)
  refine lv_aload_n hx hb dL_law_52 rfl (lv_at hl 1 rfl) ?_
  obtain ⟨fs, he⟩ := Ob_head hO
  refine ow_V (As := []) (rest := []) ⟨hx, hb, hml, hown, hts⟩ (o_faultPosition l hst D y H.size at_ V hO) (cwV 0 hts gL_law_X7_faultPosition rfl rfl rfl (by decide +kernel) ⟨(Nat.le_of_ble_eq_true rfl), (Nat.le_of_ble_eq_true rfl)⟩) he hK hP hD hS hA hZ hN hJ rfl hl.1 rfl (Nat.le_of_ble_eq_true rfl) dL_law_53 ⟨by show C + 1 + 1 + 0 + 1 + 1 + 0 ≤ 739810; omega, by show S + 6 + 6 + 0 + 6 + 6 + 0 ≤ 6872417; omega⟩ (fun hk => absurd rfl hk) (fun _ r9 V H locs h9 hP hD hS => ?_)
  obtain ⟨rfl, hO⟩ := h9
  refine lv_iconst (v := -1) hx hb dL_law_56 (by decide) ?_
  refine lv_icmp_eq (tgt := 62) hx hb dL_law_57 (by decide) (fun _ => ?_) (fun h9 => absurd (rfl) h9)
  refine lv_iconst (v := 0) hx hb dL_law_62 (by decide) ?_
  refine s1_is (z := nI 0) (rfl) ?_
  refine lv_istore_n (lv' := [(2, .int (nI 0)), (0, .ref b), (1, .ref at_)]) hx hb dL_law_63 rfl hl (by decide) rfl (fun ls hl => ?_)
  exact k0 _ _ (by omega) (by omega) _ _ _ (trivial) hO H locs hP hD hS ls (lv_sub hl [1, 2, 0] rfl)
set_option maxHeartbeats 4000000 in
set_option maxRecDepth 100000 in
theorem le_B {p : Program} {l : Launch} {e : Env} {s : State} {mi : MethodId} {args : Array Value} {below : List Frame} {meth : Method} {c : Code} {D : va_G} {y : Nat → ClassId} {A : Nat → Prop} {Q : State → Prop} {at_ : Nat} {b : Nat} (hst : l.stackTraces = false) (C0 : mC p l c mi s args D y A cL_law 11 wsL_law) (k0 : ∀ tx : Nat → Int32, tx 0 = 65 → mW p l e (rmx 2048 94400 739810 6872417) s mi args below meth c D y A at_ ((gq 0)) ((usq 0)) ((some lad0)) 0 0 0 (-1) 60 tx (anyT) [] Q 11 93 [(0, .ref b), (1, .ref at_)] (140) (1460)) : ∀ d j : Nat, j + d = 60 → ∀ tx : Nat → Int32, (0 < j → tx 0 = 65) → mW p l e (rmx 2048 94400 739810 6872417) s mi args below meth c D y A at_ ((gq 0)) ((usq 0)) ((some lad0)) 0 0 0 (-1) j tx (anyT) [] Q 11 64 [(0, .ref b), (1, .ref at_), (2, .int (nI j))] (80 + j) (1100 + 6 * j) := by
  have C1 := C0
  obtain ⟨hx, hb, hml, hown, hts, hK, hA, hZ, hN, hJ, -⟩ := C1
  intro d
  induction d with
  | zero =>
    intro j hj tx h65
    obtain rfl : j = 60 := by omega
    intro C S hC hS9 V NN TT hPT hO H locs hP hD hS ls hl
    refine lv_iload_n hx hb dL_law_64 rfl (lv_at hl 2 rfl) ?_
    refine lv_bipush (v := 60) hx hb dL_law_65 (by decide) ?_
    refine lv_icmp_ge (tgt := 93) hx hb dL_law_67 (by decide) (fun _ => ?_) (fun h9 => absurd (Int32.le_refl _) h9)
    exact (k0 tx (h65 (by decide))) _ _ (by omega) (by omega) _ _ _ (trivial) hO H locs hP hD hS ls (lv_sub hl [0, 1] rfl)
  | succ d ih =>
    intro j hj tx h65
    intro C S hC hS9 V NN TT hPT hO H locs hP hD hS ls hl
    refine lv_iload_n hx hb dL_law_64 rfl (lv_at hl 2 rfl) ?_
    refine lv_bipush (v := 60) hx hb dL_law_65 (by decide) ?_
    refine lv_icmp_ge (tgt := 93) hx hb dL_law_67 (by decide) (fun h9 => absurd h9 (fun z => by have := (nI_leI (a := 60) (b := j) (by omega) (by omega)).mp z; omega)) (fun _ => ?_)
    refine lv_aload_n hx hb dL_law_70 rfl (lv_at hl 1 rfl) ?_
    refine lv_bipush (v := 65) hx hb dL_law_71 (by decide) ?_
    refine lv_iload_n hx hb dL_law_73 rfl (lv_at hl 2 rfl) ?_
    refine lv_iadd hx hb dL_law_74 ?_
    refine lv_i2c hx hb dL_law_75 rfl ?_
    refine ow_Si (As := [.ref at_, .int (((((65 : Int32)) + (nI j)).toUInt32 % 65536).toInt32)]) (rest := []) ⟨hx, hb, hml, hown, hts⟩ (oL_append l hst D y H.size at_ V (((((65 : Int32)) + (nI j)).toUInt32 % 65536).toInt32) hO (by omega)) (vx_cwSW 2 hts gL_law_L_append rfl rfl rfl (by decide +kernel) ⟨(Nat.le_of_ble_eq_true rfl), (Nat.le_of_ble_eq_true rfl)⟩) hK hP hD hS hA hZ hN hJ rfl hl.1 rfl (Nat.le_of_ble_eq_true rfl) dL_law_76 ⟨by show C + 1 ≤ 739810; omega, by show S + 6 ≤ 6872417; omega⟩ (fun r9 V H locs h9 hP hD hS => ?_)
    obtain ⟨rfl, hO⟩ := h9
    refine lv_iload_n hx hb dL_law_79 rfl (lv_at hl 2 rfl) ?_
    refine lv_iconst (v := 1) hx hb dL_law_80 (by decide) ?_
    refine lv_iadd hx hb dL_law_81 ?_
    refine s1_is (z := nI (j + 1)) (nI_1 j) ?_
    refine lv_icmp_eq (tgt := 87) hx hb dL_law_82 (by decide) (fun _ => ?_) (fun h9 => absurd (rfl) h9)
    refine lv_iinc (v := nI (j + 1)) (lv' := [(2, .int (nI (j + 1))), (0, .ref b), (1, .ref at_)]) hx hb dL_law_87 hl (k := 2) rfl (nI_1 j) (by decide) rfl (fun ls hl => ?_)
    refine lv_goto (tgt := 64) hx hb dL_law_90 (by decide) ?_
    exact (ih (j + 1) (by omega) _ (fun _ => upd65 h65)) _ _ (by omega) (by omega) _ _ _ (trivial) hO H locs hP hD hS ls (lv_sub hl [1, 2, 0] rfl)
set_option maxHeartbeats 4000000 in
set_option maxRecDepth 100000 in
theorem le_C {p : Program} {l : Launch} {e : Env} {s : State} {mi : MethodId} {args : Array Value} {below : List Frame} {meth : Method} {c : Code} {D : va_G} {y : Nat → ClassId} {A : Nat → Prop} {Q : State → Prop} {at_ : Nat} {b : Nat} {tx : Nat → Int32} (hst : l.stackTraces = false) (C0 : mC p l c mi s args D y A cL_law 11 wsL_law) (h65 : tx 0 = 65) (k0 : mW p l e (rmx 2048 94400 739810 6872417) s mi args below meth c D y A at_ ((gq 0)) ((usq 0)) ((some lad0)) 0 0 0 ((nI 0)) 0 tx (anyT) [] Q 11 147 [(0, .ref b), (1, .ref at_), (2, .int (lk 0))] (150) (1500)) : mW p l e (rmx 2048 94400 739810 6872417) s mi args below meth c D y A at_ ((gq 0)) ((usq 0)) ((some lad0)) 0 0 0 (-1) 60 tx (anyT) [] Q 11 93 [(0, .ref b), (1, .ref at_)] (140) (1460) := by
  obtain ⟨hx, hb, hml, hown, hts, hK, hA, hZ, hN, hJ, -⟩ := C0
  intro C S hC hS9 V NN TT hPT hO H locs hP hD hS ls hl
  refine lv_aload_n hx hb dL_law_93 rfl (lv_at hl 1 rfl) ?_
  refine lv_bipush (v := 116) hx hb dL_law_94 (by decide) ?_
  refine ow_Si (As := [.ref at_, .int ((116 : Int32))]) (rest := []) ⟨hx, hb, hml, hown, hts⟩ (oL_append60 l hst D y H.size at_ V (116) hO) (vx_cwSW 2 hts gL_law_L_append rfl rfl rfl (by decide +kernel) ⟨(Nat.le_of_ble_eq_true rfl), (Nat.le_of_ble_eq_true rfl)⟩) hK hP hD hS hA hZ hN hJ rfl hl.1 rfl (Nat.le_of_ble_eq_true rfl) dL_law_96 ⟨by show C + 1 ≤ 739810; omega, by show S + 6 ≤ 6872417; omega⟩ (fun r9 V H locs h9 hP hD hS => ?_)
  obtain ⟨rfl, hO⟩ := h9
  refine lv_sipush (v := -1001) hx hb dL_law_99 (by decide) ?_
  refine lv_icmp_ne (tgt := 142) hx hb dL_law_102 (by decide) (fun h9 => absurd (rfl) h9) (fun _ => ?_)
  refine lv_aload_n hx hb dL_law_105 rfl (lv_at hl 1 rfl) ?_
  refine lv_bipush (v := 9) hx hb dL_law_106 (by decide) ?_
  refine ow_Si (As := [.ref at_, .int ((9 : Int32))]) (rest := []) ⟨hx, hb, hml, hown, hts⟩ (oL_account l hst D y H.size at_ V ((9 : Int32)) hO) (vx_cwSW 2 hts gL_law_L_account rfl rfl rfl (by decide +kernel) ⟨(Nat.le_of_ble_eq_true rfl), (Nat.le_of_ble_eq_true rfl)⟩) hK hP hD hS hA hZ hN hJ rfl hl.1 rfl (Nat.le_of_ble_eq_true rfl) dL_law_108 ⟨by show C + 1 + 1 ≤ 739810; omega, by show S + 6 + 6 ≤ 6872417; omega⟩ (fun r9 V H locs h9 hP hD hS => ?_)
  obtain ⟨rfl, hO⟩ := h9
  refine s1_is (z := nI 60) (acc_9) ?_
  refine lv_bipush (v := 60) hx hb dL_law_111 (by decide) ?_
  refine lv_icmp_ne (tgt := 142) hx hb dL_law_113 (by decide) (fun h9 => absurd (rfl) h9) (fun _ => ?_)
  refine lv_aload_n hx hb dL_law_116 rfl (lv_at hl 1 rfl) ?_
  refine ow_Si (As := [.ref at_]) (rest := []) ⟨hx, hb, hml, hown, hts⟩ (oL_commands l hst D y H.size at_ V  hO) (vx_cwSW 1 hts gL_law_L_commands rfl rfl rfl (by decide +kernel) ⟨(Nat.le_of_ble_eq_true rfl), (Nat.le_of_ble_eq_true rfl)⟩) hK hP hD hS hA hZ hN hJ rfl hl.1 rfl (Nat.le_of_ble_eq_true rfl) dL_law_117 ⟨by show C + 1 + 1 + 1 ≤ 739810; omega, by show S + 6 + 6 + 6 ≤ 6872417; omega⟩ (fun r9 V H locs h9 hP hD hS => ?_)
  obtain ⟨rfl, hO⟩ := cm_A h65 h9
  refine lv_sipush (v := -1001) hx hb dL_law_120 (by decide) ?_
  refine lv_icmp_ne (tgt := 142) hx hb dL_law_123 (by decide) (fun h9 => absurd (rfl) h9) (fun _ => ?_)
  refine lv_aload_n hx hb dL_law_126 rfl (lv_at hl 1 rfl) ?_
  obtain ⟨fs, he⟩ := Ob_head hO
  refine ow_V (As := []) (rest := []) ⟨hx, hb, hml, hown, hts⟩ (o_faultPosition l hst D y H.size at_ V hO) (cwV 0 hts gL_law_X7_faultPosition rfl rfl rfl (by decide +kernel) ⟨(Nat.le_of_ble_eq_true rfl), (Nat.le_of_ble_eq_true rfl)⟩) he hK hP hD hS hA hZ hN hJ rfl hl.1 rfl (Nat.le_of_ble_eq_true rfl) dL_law_127 ⟨by show C + 1 + 1 + 1 + 0 ≤ 739810; omega, by show S + 6 + 6 + 6 + 0 ≤ 6872417; omega⟩ (fun hk => absurd rfl hk) (fun _ r9 V H locs h9 hP hD hS => ?_)
  obtain ⟨rfl, hO⟩ := h9
  refine lv_if_ne (tgt := 142) hx hb dL_law_130 (by decide) (fun h9 => absurd (rfl) h9) (fun _ => ?_)
  refine lv_aload_n hx hb dL_law_133 rfl (lv_at hl 1 rfl) ?_
  refine lv_bipush (v := 9) hx hb dL_law_134 (by decide) ?_
  refine ow_Si (As := [.ref at_, .int ((9 : Int32))]) (rest := []) ⟨hx, hb, hml, hown, hts⟩ (oL_account l hst D y H.size at_ V ((9 : Int32)) hO) (vx_cwSW 2 hts gL_law_L_account rfl rfl rfl (by decide +kernel) ⟨(Nat.le_of_ble_eq_true rfl), (Nat.le_of_ble_eq_true rfl)⟩) hK hP hD hS hA hZ hN hJ rfl hl.1 rfl (Nat.le_of_ble_eq_true rfl) dL_law_136 ⟨by show C + 1 + 1 + 1 + 0 + 1 ≤ 739810; omega, by show S + 6 + 6 + 6 + 0 + 6 ≤ 6872417; omega⟩ (fun r9 V H locs h9 hP hD hS => ?_)
  obtain ⟨rfl, hO⟩ := h9
  refine s1_is (z := nI 0) (acc_9) ?_
  refine lv_if_eq (tgt := 144) hx hb dL_law_139 (by decide) (fun _ => ?_) (fun h9 => absurd (rfl) h9)
  refine lv_bipush (v := 23) hx hb dL_law_144 (by decide) ?_
  refine s1_is (z := lk 0) (rfl) ?_
  refine lv_istore_n (lv' := [(2, .int (lk 0)), (0, .ref b), (1, .ref at_)]) hx hb dL_law_146 rfl hl (by decide) rfl (fun ls hl => ?_)
  exact k0 _ _ (by omega) (by omega) _ _ _ (trivial) hO H locs hP hD hS ls (lv_sub hl [1, 2, 0] rfl)
set_option maxHeartbeats 4000000 in
set_option maxRecDepth 100000 in
theorem le_D {p : Program} {l : Launch} {e : Env} {s : State} {mi : MethodId} {args : Array Value} {below : List Frame} {meth : Method} {c : Code} {D : va_G} {y : Nat → ClassId} {A : Nat → Prop} {Q : State → Prop} {at_ : Nat} {b : Nat} {tx : Nat → Int32} (hst : l.stackTraces = false) (C0 : mC p l c mi s args D y A cL_law 11 wsL_law) (k0 : mW p l e (rmx 2048 94400 739810 6872417) s mi args below meth c D y A at_ ((gq 24)) ((usq 24)) ((some lad0)) 0 0 0 ((nI 0)) 0 tx (anyT) [] Q 11 176 [(0, .ref b), (1, .ref at_)] (174) (1644)) : ∀ d j : Nat, j + d = 24 → mW p l e (rmx 2048 94400 739810 6872417) s mi args below meth c D y A at_ ((gq j)) ((usq j)) ((some lad0)) 0 0 0 ((nI 0)) 0 tx (anyT) [] Q 11 147 [(0, .ref b), (1, .ref at_), (2, .int (lk j))] (150 + j) (1500 + 6 * j) := by
  have C1 := C0
  obtain ⟨hx, hb, hml, hown, hts, hK, hA, hZ, hN, hJ, -⟩ := C1
  intro d
  induction d with
  | zero =>
    intro j hj
    obtain rfl : j = 24 := by omega
    intro C S hC hS9 V NN TT hPT hO H locs hP hD hS ls hl
    refine lv_iload_n hx hb dL_law_147 rfl (lv_at hl 2 rfl) ?_
    refine lv_if_lt (tgt := 176) hx hb dL_law_148 (by decide) (fun _ => ?_) (fun h9 => absurd (by decide) h9)
    exact k0 _ _ (by omega) (by omega) _ _ _ (trivial) hO H locs hP hD hS ls (lv_sub hl [0, 1] rfl)
  | succ d ih =>
    intro j hj
    have hj2 : j < 24 := by omega
    intro C S hC hS9 V NN TT hPT hO H locs hP hD hS ls hl
    rw [show lk j = nI (23 - j) from if_pos hj2] at hl
    refine lv_iload_n hx hb dL_law_147 rfl (lv_at hl 2 rfl) ?_
    refine lv_if_lt (tgt := 176) hx hb dL_law_148 (by decide) (fun h9 => absurd h9 (nI_nlt0 (by omega))) (fun _ => ?_)
    refine lv_aload_n hx hb dL_law_151 rfl (lv_at hl 1 rfl) ?_
    refine lv_bipush (v := 40) hx hb dL_law_152 (by decide) ?_
    refine lv_iload_n hx hb dL_law_154 rfl (lv_at hl 2 rfl) ?_
    refine lv_imul hx hb dL_law_155 ?_
    refine s1_is (z := nI (40 * (23 - j))) (m40 hj2) ?_
    refine lv_iload_n hx hb dL_law_156 rfl (lv_at hl 2 rfl) ?_
    refine lv_iconst (v := 5) hx hb dL_law_157 (by decide) ?_
    refine lv_iload_n hx hb dL_law_158 rfl (lv_at hl 2 rfl) ?_
    refine lv_iconst (v := 5) hx hb dL_law_159 (by decide) ?_
    refine lv_irem hx hb dL_law_160 (by decide) ?_
    refine lv_isub hx hb dL_law_161 ?_
    refine s1_is (z := nI (5 - (23 - j) % 5)) (m5 hj2) ?_
    refine ow_Si (As := [.ref at_, .int (nI (40 * (23 - j))), .int (nI (23 - j)), .int (nI (5 - (23 - j) % 5))]) (rest := []) ⟨hx, hb, hml, hown, hts⟩ (oL_fileTall l hst D y H.size at_ V (nI (40 * (23 - j))) (nI (23 - j)) (nI (5 - (23 - j) % 5)) hO) (vx_cwSW 4 hts gL_law_L_fileTall rfl rfl rfl (by decide +kernel) ⟨(Nat.le_of_ble_eq_true rfl), (Nat.le_of_ble_eq_true rfl)⟩) hK hP hD hS hA hZ hN hJ rfl hl.1 rfl (Nat.le_of_ble_eq_true rfl) dL_law_162 ⟨by show C + 1 ≤ 739810; omega, by show S + 6 ≤ 6872417; omega⟩ (fun r9 V H locs h9 hP hD hS => ?_)
    obtain ⟨-, h9r, -, -, hO⟩ := h9.resolve_right (fun z => z.1 (by rw [e_fileR hj2]))
    rw [e_fileC hj2] at h9r hO
    have hO : Ob y at_ (gq (j + 1)) (usq (j + 1)) (some lad0) 0 0 0 (nI 0) 0 tx _ _ V := hO
    refine lv_if_eq (tgt := 170) hx hb dL_law_165 (by decide) (fun _ => ?_) (fun h9 => absurd (h9r) h9)
    refine lv_iinc (v := lk (j + 1)) (lv' := [(2, .int (lk (j + 1))), (0, .ref b), (1, .ref at_)]) hx hb dL_law_170 hl (k := 2) rfl (lk_1 hj2) (by decide) rfl (fun ls hl => ?_)
    refine lv_goto (tgt := 147) hx hb dL_law_173 (by decide) ?_
    exact (ih (j + 1) (by omega)) _ _ (by omega) (by omega) _ _ _ (trivial) hO H locs hP hD hS ls (lv_sub hl [1, 2, 0] rfl)
set_option maxHeartbeats 4000000 in
set_option maxRecDepth 100000 in
theorem le_E {p : Program} {l : Launch} {e : Env} {s : State} {mi : MethodId} {args : Array Value} {below : List Frame} {meth : Method} {c : Code} {D : va_G} {y : Nat → ClassId} {A : Nat → Prop} {Q : State → Prop} {at_ : Nat} {b : Nat} {tx : Nat → Int32} (hst : l.stackTraces = false) (C0 : mC p l c mi s args D y A cL_law 11 wsL_law) (k0 : mW p l e (rmx 2048 94400 739810 6872417) s mi args below meth c D y A at_ ((gq 24)) ((usq 24)) ((some lad0)) 4 ((nI 0)) 0 ((nI 0)) 0 tx (anyT) [] Q 11 379 [(0, .ref b), (1, .ref at_)] (210) (1870)) : mW p l e (rmx 2048 94400 739810 6872417) s mi args below meth c D y A at_ ((gq 24)) ((usq 24)) ((some lad0)) 0 0 0 ((nI 0)) 0 tx (anyT) [] Q 11 176 [(0, .ref b), (1, .ref at_)] (174) (1644) := by
  obtain ⟨hx, hb, hml, hown, hts, hK, hA, hZ, hN, hJ, -⟩ := C0
  intro C S hC hS9 V NN TT hPT hO H locs hP hD hS ls hl
  refine lv_aload_n hx hb dL_law_176 rfl (lv_at hl 1 rfl) ?_
  refine lv_iconst (v := 5) hx hb dL_law_177 (by decide) ?_
  refine lv_iconst (v := 5) hx hb dL_law_178 (by decide) ?_
  refine ow_Si (As := [.ref at_, .int ((5 : Int32)), .int ((5 : Int32))]) (rest := []) ⟨hx, hb, hml, hown, hts⟩ (oL_file l hst D y H.size at_ V ((5 : Int32)) ((5 : Int32)) hO) (vx_cwSW 3 hts gL_law_L_file rfl rfl rfl (by decide +kernel) ⟨(Nat.le_of_ble_eq_true rfl), (Nat.le_of_ble_eq_true rfl)⟩) hK hP hD hS hA hZ hN hJ rfl hl.1 rfl (Nat.le_of_ble_eq_true rfl) dL_law_179 ⟨by show C + 1 ≤ 739810; omega, by show S + 6 ≤ 6872417; omega⟩ (fun r9 V H locs h9 hP hD hS => ?_)
  obtain ⟨-, rfl, hO⟩ := h9.resolve_left (fun z => absurd z.1 (by rw [e_full]; decide))
  have hO := Ob_rd e_full hO
  refine lv_sipush (v := -1001) hx hb dL_law_182 (by decide) ?_
  refine lv_icmp_ne (tgt := 377) hx hb dL_law_185 (by decide) (fun h9 => absurd (rfl) h9) (fun _ => ?_)
  refine lv_aload_n hx hb dL_law_188 rfl (lv_at hl 1 rfl) ?_
  refine lv_iconst (v := 2) hx hb dL_law_189 (by decide) ?_
  refine lv_bipush (v := 24) hx hb dL_law_190 (by decide) ?_
  refine lv_iconst (v := 0) hx hb dL_law_192 (by decide) ?_
  refine ow_Mi (As := [.ref at_, .int ((2 : Int32)), .int ((24 : Int32)), .int ((0 : Int32))]) (rest := []) ⟨hx, hb, hml, hown, hts⟩ (oL_is l hst D y H.size at_ V ((2 : Int32)) ((24 : Int32)) ((0 : Int32)) hO) (va_cwS 4 hts gL_law_L_is rfl rfl rfl (by decide +kernel) ⟨(Nat.le_of_ble_eq_true rfl), (Nat.le_of_ble_eq_true rfl)⟩) hK hP hD hS hA hZ hN hJ rfl hl.1 rfl (Nat.le_of_ble_eq_true rfl) dL_law_193 ⟨by show C + 1 + 3 ≤ 739810; omega, by show S + 6 + 18 ≤ 6872417; omega⟩ (fun r9 V H locs h9 hP hD hS => ?_)
  obtain ⟨rfl, hO⟩ := h9
  refine s1_is (z := 1) (by decide +kernel) ?_
  refine lv_if_eq (tgt := 377) hx hb dL_law_196 (by decide) (fun h9 => absurd h9 (by decide)) (fun _ => ?_)
  refine lv_aload_n hx hb dL_law_199 rfl (lv_at hl 1 rfl) ?_
  refine lv_iconst (v := 0) hx hb dL_law_200 (by decide) ?_
  refine lv_iconst (v := 5) hx hb dL_law_201 (by decide) ?_
  refine lv_iconst (v := 1) hx hb dL_law_202 (by decide) ?_
  refine ow_Si (As := [.ref at_, .int ((0 : Int32)), .int ((5 : Int32)), .int ((1 : Int32))]) (rest := []) ⟨hx, hb, hml, hown, hts⟩ (oL_fileTall l hst D y H.size at_ V ((0 : Int32)) ((5 : Int32)) ((1 : Int32)) hO) (vx_cwSW 4 hts gL_law_L_fileTall rfl rfl rfl (by decide +kernel) ⟨(Nat.le_of_ble_eq_true rfl), (Nat.le_of_ble_eq_true rfl)⟩) hK hP hD hS hA hZ hN hJ rfl hl.1 rfl (Nat.le_of_ble_eq_true rfl) dL_law_203 ⟨by show C + 1 + 3 + 1 ≤ 739810; omega, by show S + 6 + 18 + 6 ≤ 6872417; omega⟩ (fun r9 V H locs h9 hP hD hS => ?_)
  obtain ⟨-, rfl, hO⟩ := h9.resolve_left (fun z => absurd z.1 (by rw [e_there]; decide))
  have hO := Ob_rd e_there hO
  refine lv_sipush (v := -1001) hx hb dL_law_206 (by decide) ?_
  refine lv_icmp_ne (tgt := 377) hx hb dL_law_209 (by decide) (fun h9 => absurd (rfl) h9) (fun _ => ?_)
  refine lv_aload_n hx hb dL_law_212 rfl (lv_at hl 1 rfl) ?_
  refine lv_iconst (v := 4) hx hb dL_law_213 (by decide) ?_
  refine lv_iconst (v := 0) hx hb dL_law_214 (by decide) ?_
  refine lv_iconst (v := 0) hx hb dL_law_215 (by decide) ?_
  refine ow_Mi (As := [.ref at_, .int ((4 : Int32)), .int ((0 : Int32)), .int ((0 : Int32))]) (rest := []) ⟨hx, hb, hml, hown, hts⟩ (oL_is l hst D y H.size at_ V ((4 : Int32)) ((0 : Int32)) ((0 : Int32)) hO) (va_cwS 4 hts gL_law_L_is rfl rfl rfl (by decide +kernel) ⟨(Nat.le_of_ble_eq_true rfl), (Nat.le_of_ble_eq_true rfl)⟩) hK hP hD hS hA hZ hN hJ rfl hl.1 rfl (Nat.le_of_ble_eq_true rfl) dL_law_216 ⟨by show C + 1 + 3 + 1 + 3 ≤ 739810; omega, by show S + 6 + 18 + 6 + 18 ≤ 6872417; omega⟩ (fun r9 V H locs h9 hP hD hS => ?_)
  obtain ⟨rfl, hO⟩ := h9
  refine s1_is (z := 1) (by decide +kernel) ?_
  refine lv_if_eq (tgt := 377) hx hb dL_law_219 (by decide) (fun h9 => absurd h9 (by decide)) (fun _ => ?_)
  refine lv_aload_n hx hb dL_law_222 rfl (lv_at hl 1 rfl) ?_
  refine lv_iconst (v := 4) hx hb dL_law_223 (by decide) ?_
  refine ow_Si (As := [.ref at_, .int ((4 : Int32))]) (rest := []) ⟨hx, hb, hml, hown, hts⟩ (oL_account l hst D y H.size at_ V ((4 : Int32)) hO) (vx_cwSW 2 hts gL_law_L_account rfl rfl rfl (by decide +kernel) ⟨(Nat.le_of_ble_eq_true rfl), (Nat.le_of_ble_eq_true rfl)⟩) hK hP hD hS hA hZ hN hJ rfl hl.1 rfl (Nat.le_of_ble_eq_true rfl) dL_law_224 ⟨by show C + 1 + 3 + 1 + 3 + 1 ≤ 739810; omega, by show S + 6 + 18 + 6 + 18 + 6 ≤ 6872417; omega⟩ (fun r9 V H locs h9 hP hD hS => ?_)
  obtain ⟨rfl, hO⟩ := h9
  refine s1_is (z := 1) (by decide +kernel) ?_
  refine lv_iconst (v := 1) hx hb dL_law_227 (by decide) ?_
  refine lv_icmp_ne (tgt := 377) hx hb dL_law_228 (by decide) (fun h9 => absurd (rfl) h9) (fun _ => ?_)
  refine lv_aload_n hx hb dL_law_231 rfl (lv_at hl 1 rfl) ?_
  refine lv_iconst (v := 1) hx hb dL_law_232 (by decide) ?_
  refine ow_Si (As := [.ref at_, .int ((1 : Int32))]) (rest := []) ⟨hx, hb, hml, hown, hts⟩ (oL_account l hst D y H.size at_ V ((1 : Int32)) hO) (vx_cwSW 2 hts gL_law_L_account rfl rfl rfl (by decide +kernel) ⟨(Nat.le_of_ble_eq_true rfl), (Nat.le_of_ble_eq_true rfl)⟩) hK hP hD hS hA hZ hN hJ rfl hl.1 rfl (Nat.le_of_ble_eq_true rfl) dL_law_233 ⟨by show C + 1 + 3 + 1 + 3 + 1 + 1 ≤ 739810; omega, by show S + 6 + 18 + 6 + 18 + 6 + 6 ≤ 6872417; omega⟩ (fun r9 V H locs h9 hP hD hS => ?_)
  obtain ⟨rfl, hO⟩ := h9
  refine s1_is (z := 74) (by decide +kernel) ?_
  refine lv_bipush (v := 74) hx hb dL_law_236 (by decide) ?_
  refine lv_icmp_ne (tgt := 377) hx hb dL_law_238 (by decide) (fun h9 => absurd (rfl) h9) (fun _ => ?_)
  refine lv_aload_n hx hb dL_law_241 rfl (lv_at hl 1 rfl) ?_
  refine lv_iconst (v := 4) hx hb dL_law_242 (by decide) ?_
  refine ow_Si (As := [.ref at_, .int ((4 : Int32))]) (rest := []) ⟨hx, hb, hml, hown, hts⟩ (oL_levelSize l hst D y H.size at_ V ((4 : Int32)) hO) (vx_cwSW 2 hts gL_law_L_levelSize rfl rfl rfl (by decide +kernel) ⟨(Nat.le_of_ble_eq_true rfl), (Nat.le_of_ble_eq_true rfl)⟩) hK hP hD hS hA hZ hN hJ rfl hl.1 rfl (Nat.le_of_ble_eq_true rfl) dL_law_243 ⟨by show C + 1 + 3 + 1 + 3 + 1 + 1 + 1 ≤ 739810; omega, by show S + 6 + 18 + 6 + 18 + 6 + 6 + 6 ≤ 6872417; omega⟩ (fun r9 V H locs h9 hP hD hS => ?_)
  obtain ⟨rfl, hO⟩ := h9
  refine s1_is (z := 5) (by decide +kernel) ?_
  refine lv_iconst (v := 5) hx hb dL_law_246 (by decide) ?_
  refine lv_icmp_ne (tgt := 377) hx hb dL_law_247 (by decide) (fun h9 => absurd (rfl) h9) (fun _ => ?_)
  refine lv_aload_n hx hb dL_law_250 rfl (lv_at hl 1 rfl) ?_
  refine lv_iconst (v := 0) hx hb dL_law_251 (by decide) ?_
  refine ow_Si (As := [.ref at_, .int ((0 : Int32))]) (rest := []) ⟨hx, hb, hml, hown, hts⟩ (oL_levelSize l hst D y H.size at_ V ((0 : Int32)) hO) (vx_cwSW 2 hts gL_law_L_levelSize rfl rfl rfl (by decide +kernel) ⟨(Nat.le_of_ble_eq_true rfl), (Nat.le_of_ble_eq_true rfl)⟩) hK hP hD hS hA hZ hN hJ rfl hl.1 rfl (Nat.le_of_ble_eq_true rfl) dL_law_252 ⟨by show C + 1 + 3 + 1 + 3 + 1 + 1 + 1 + 1 ≤ 739810; omega, by show S + 6 + 18 + 6 + 18 + 6 + 6 + 6 + 6 ≤ 6872417; omega⟩ (fun r9 V H locs h9 hP hD hS => ?_)
  obtain ⟨rfl, hO⟩ := h9
  refine s1_is (z := 24) (by decide +kernel) ?_
  refine lv_bipush (v := 24) hx hb dL_law_255 (by decide) ?_
  refine lv_icmp_ne (tgt := 377) hx hb dL_law_257 (by decide) (fun h9 => absurd (rfl) h9) (fun _ => ?_)
  refine lv_aload_n hx hb dL_law_260 rfl (lv_at hl 1 rfl) ?_
  refine lv_iconst (v := 3) hx hb dL_law_261 (by decide) ?_
  refine ow_Si (As := [.ref at_, .int ((3 : Int32))]) (rest := []) ⟨hx, hb, hml, hown, hts⟩ (oL_headSpan l hst D y H.size at_ V ((3 : Int32)) hO) (vx_cwSW 2 hts gL_law_L_headSpan rfl rfl rfl (by decide +kernel) ⟨(Nat.le_of_ble_eq_true rfl), (Nat.le_of_ble_eq_true rfl)⟩) hK hP hD hS hA hZ hN hJ rfl hl.1 rfl (Nat.le_of_ble_eq_true rfl) dL_law_262 ⟨by show C + 1 + 3 + 1 + 3 + 1 + 1 + 1 + 1 + 1 ≤ 739810; omega, by show S + 6 + 18 + 6 + 18 + 6 + 6 + 6 + 6 + 6 ≤ 6872417; omega⟩ (fun r9 V H locs h9 hP hD hS => ?_)
  obtain ⟨rfl, hO⟩ := h9
  refine s1_is (z := 1) (by decide +kernel) ?_
  refine lv_iconst (v := 1) hx hb dL_law_265 (by decide) ?_
  refine lv_icmp_ne (tgt := 377) hx hb dL_law_266 (by decide) (fun h9 => absurd (rfl) h9) (fun _ => ?_)
  refine lv_aload_n hx hb dL_law_269 rfl (lv_at hl 1 rfl) ?_
  refine lv_iconst (v := 0) hx hb dL_law_270 (by decide) ?_
  refine lv_iconst (v := 4) hx hb dL_law_271 (by decide) ?_
  refine ow_Si (As := [.ref at_, .int ((0 : Int32)), .int ((4 : Int32))]) (rest := []) ⟨hx, hb, hml, hown, hts⟩ (oL_span l hst D y H.size at_ V ((0 : Int32)) ((4 : Int32)) hO) (vx_cwSW 3 hts gL_law_L_span rfl rfl rfl (by decide +kernel) ⟨(Nat.le_of_ble_eq_true rfl), (Nat.le_of_ble_eq_true rfl)⟩) hK hP hD hS hA hZ hN hJ rfl hl.1 rfl (Nat.le_of_ble_eq_true rfl) dL_law_272 ⟨by show C + 1 + 3 + 1 + 3 + 1 + 1 + 1 + 1 + 1 + 4 ≤ 739810; omega, by show S + 6 + 18 + 6 + 18 + 6 + 6 + 6 + 6 + 6 + 24 ≤ 6872417; omega⟩ (fun r9 V H locs h9 hP hD hS => ?_)
  obtain ⟨rfl, hO⟩ := h9
  refine s1_is (z := 5) (by decide +kernel) ?_
  refine lv_iconst (v := 5) hx hb dL_law_275 (by decide) ?_
  refine lv_icmp_ne (tgt := 377) hx hb dL_law_276 (by decide) (fun h9 => absurd (rfl) h9) (fun _ => ?_)
  refine lv_aload_n hx hb dL_law_279 rfl (lv_at hl 1 rfl) ?_
  refine lv_sipush (v := 800) hx hb dL_law_280 (by decide) ?_
  refine lv_iconst (v := 4) hx hb dL_law_283 (by decide) ?_
  refine ow_Si (As := [.ref at_, .int ((800 : Int32)), .int ((4 : Int32))]) (rest := []) ⟨hx, hb, hml, hown, hts⟩ (oL_span l hst D y H.size at_ V ((800 : Int32)) ((4 : Int32)) hO) (vx_cwSW 3 hts gL_law_L_span rfl rfl rfl (by decide +kernel) ⟨(Nat.le_of_ble_eq_true rfl), (Nat.le_of_ble_eq_true rfl)⟩) hK hP hD hS hA hZ hN hJ rfl hl.1 rfl (Nat.le_of_ble_eq_true rfl) dL_law_284 ⟨by show C + 1 + 3 + 1 + 3 + 1 + 1 + 1 + 1 + 1 + 4 + 4 ≤ 739810; omega, by show S + 6 + 18 + 6 + 18 + 6 + 6 + 6 + 6 + 6 + 24 + 24 ≤ 6872417; omega⟩ (fun r9 V H locs h9 hP hD hS => ?_)
  obtain ⟨rfl, hO⟩ := h9
  refine s1_is (z := 4) (by decide +kernel) ?_
  refine lv_iconst (v := 4) hx hb dL_law_287 (by decide) ?_
  refine lv_icmp_ne (tgt := 377) hx hb dL_law_288 (by decide) (fun h9 => absurd (rfl) h9) (fun _ => ?_)
  refine lv_aload_n hx hb dL_law_291 rfl (lv_at hl 1 rfl) ?_
  refine lv_sipush (v := 999) hx hb dL_law_292 (by decide) ?_
  refine ow_Si (As := [.ref at_, .int ((999 : Int32))]) (rest := []) ⟨hx, hb, hml, hown, hts⟩ (oL_steps l hst D y H.size at_ V ((999 : Int32)) hO) (vx_cwSW 2 hts gL_law_L_steps rfl rfl rfl (by decide +kernel) ⟨(Nat.le_of_ble_eq_true rfl), (Nat.le_of_ble_eq_true rfl)⟩) hK hP hD hS hA hZ hN hJ rfl hl.1 rfl (Nat.le_of_ble_eq_true rfl) dL_law_295 ⟨by show C + 1 + 3 + 1 + 3 + 1 + 1 + 1 + 1 + 1 + 4 + 4 + 1 ≤ 739810; omega, by show S + 6 + 18 + 6 + 18 + 6 + 6 + 6 + 6 + 6 + 24 + 24 + 6 ≤ 6872417; omega⟩ (fun r9 V H locs h9 hP hD hS => ?_)
  obtain ⟨rfl, hO⟩ := h9
  refine s1_is (z := 12) (by decide +kernel) ?_
  refine lv_bipush (v := 12) hx hb dL_law_298 (by decide) ?_
  refine lv_icmp_ne (tgt := 377) hx hb dL_law_300 (by decide) (fun h9 => absurd (rfl) h9) (fun _ => ?_)
  refine lv_aload_n hx hb dL_law_303 rfl (lv_at hl 1 rfl) ?_
  refine lv_sipush (v := 999) hx hb dL_law_304 (by decide) ?_
  refine ow_Si (As := [.ref at_, .int ((999 : Int32))]) (rest := []) ⟨hx, hb, hml, hown, hts⟩ (oL_falls l hst D y H.size at_ V ((999 : Int32)) hO) (vx_cwSW 2 hts gL_law_L_falls rfl rfl rfl (by decide +kernel) ⟨(Nat.le_of_ble_eq_true rfl), (Nat.le_of_ble_eq_true rfl)⟩) hK hP hD hS hA hZ hN hJ rfl hl.1 rfl (Nat.le_of_ble_eq_true rfl) dL_law_307 ⟨by show C + 1 + 3 + 1 + 3 + 1 + 1 + 1 + 1 + 1 + 4 + 4 + 1 + 1 ≤ 739810; omega, by show S + 6 + 18 + 6 + 18 + 6 + 6 + 6 + 6 + 6 + 24 + 24 + 6 + 6 ≤ 6872417; omega⟩ (fun r9 V H locs h9 hP hD hS => ?_)
  obtain ⟨rfl, hO⟩ := h9
  refine s1_is (z := 4) (by decide +kernel) ?_
  refine lv_iconst (v := 4) hx hb dL_law_310 (by decide) ?_
  refine lv_icmp_ne (tgt := 377) hx hb dL_law_311 (by decide) (fun h9 => absurd (rfl) h9) (fun _ => ?_)
  refine lv_aload_n hx hb dL_law_314 rfl (lv_at hl 1 rfl) ?_
  refine lv_sipush (v := 999) hx hb dL_law_315 (by decide) ?_
  refine lv_iconst (v := 5) hx hb dL_law_318 (by decide) ?_
  refine ow_Si (As := [.ref at_, .int ((999 : Int32)), .int ((5 : Int32))]) (rest := []) ⟨hx, hb, hml, hown, hts⟩ (oL_placeOf l hst D y H.size at_ V ((999 : Int32)) ((5 : Int32)) hO) (vx_cwSW 3 hts gL_law_L_placeOf rfl rfl rfl (by decide +kernel) ⟨(Nat.le_of_ble_eq_true rfl), (Nat.le_of_ble_eq_true rfl)⟩) hK hP hD hS hA hZ hN hJ rfl hl.1 rfl (Nat.le_of_ble_eq_true rfl) dL_law_319 ⟨by show C + 1 + 3 + 1 + 3 + 1 + 1 + 1 + 1 + 1 + 4 + 4 + 1 + 1 + 2 ≤ 739810; omega, by show S + 6 + 18 + 6 + 18 + 6 + 6 + 6 + 6 + 6 + 24 + 24 + 6 + 6 + 12 ≤ 6872417; omega⟩ (fun r9 V H locs h9 hP hD hS => ?_)
  obtain ⟨rfl, hO⟩ := h9
  refine s1_is (z := 800) (by decide +kernel) ?_
  refine lv_sipush (v := 800) hx hb dL_law_322 (by decide) ?_
  refine lv_icmp_ne (tgt := 377) hx hb dL_law_325 (by decide) (fun h9 => absurd (rfl) h9) (fun _ => ?_)
  refine lv_aload_n hx hb dL_law_328 rfl (lv_at hl 1 rfl) ?_
  refine lv_sipush (v := 999) hx hb dL_law_329 (by decide) ?_
  refine lv_bipush (v := 8) hx hb dL_law_332 (by decide) ?_
  refine ow_Si (As := [.ref at_, .int ((999 : Int32)), .int ((8 : Int32))]) (rest := []) ⟨hx, hb, hml, hown, hts⟩ (oL_placeOf l hst D y H.size at_ V ((999 : Int32)) ((8 : Int32)) hO) (vx_cwSW 3 hts gL_law_L_placeOf rfl rfl rfl (by decide +kernel) ⟨(Nat.le_of_ble_eq_true rfl), (Nat.le_of_ble_eq_true rfl)⟩) hK hP hD hS hA hZ hN hJ rfl hl.1 rfl (Nat.le_of_ble_eq_true rfl) dL_law_334 ⟨by show C + 1 + 3 + 1 + 3 + 1 + 1 + 1 + 1 + 1 + 4 + 4 + 1 + 1 + 2 + 2 ≤ 739810; omega, by show S + 6 + 18 + 6 + 18 + 6 + 6 + 6 + 6 + 6 + 24 + 24 + 6 + 6 + 12 + 12 ≤ 6872417; omega⟩ (fun r9 V H locs h9 hP hD hS => ?_)
  obtain ⟨rfl, hO⟩ := h9
  refine s1_is (z := 920) (by decide +kernel) ?_
  refine lv_sipush (v := 920) hx hb dL_law_337 (by decide) ?_
  refine lv_icmp_ne (tgt := 377) hx hb dL_law_340 (by decide) (fun h9 => absurd (rfl) h9) (fun _ => ?_)
  refine lv_aload_n hx hb dL_law_343 rfl (lv_at hl 1 rfl) ?_
  refine lv_sipush (v := 999) hx hb dL_law_344 (by decide) ?_
  refine ow_Si (As := [.ref at_, .int ((999 : Int32))]) (rest := []) ⟨hx, hb, hml, hown, hts⟩ (oL_rank l hst D y H.size at_ V ((999 : Int32)) hO) (vx_cwSW 2 hts gL_law_L_rank rfl rfl rfl (by decide +kernel) ⟨(Nat.le_of_ble_eq_true rfl), (Nat.le_of_ble_eq_true rfl)⟩) hK hP hD hS hA hZ hN hJ rfl hl.1 rfl (Nat.le_of_ble_eq_true rfl) dL_law_347 ⟨by show C + 1 + 3 + 1 + 3 + 1 + 1 + 1 + 1 + 1 + 4 + 4 + 1 + 1 + 2 + 2 + 1 ≤ 739810; omega, by show S + 6 + 18 + 6 + 18 + 6 + 6 + 6 + 6 + 6 + 24 + 24 + 6 + 6 + 12 + 12 + 6 ≤ 6872417; omega⟩ (fun r9 V H locs h9 hP hD hS => ?_)
  obtain ⟨rfl, hO⟩ := h9
  refine s1_is (z := 24) (by decide +kernel) ?_
  refine lv_bipush (v := 24) hx hb dL_law_350 (by decide) ?_
  refine lv_icmp_ne (tgt := 377) hx hb dL_law_352 (by decide) (fun h9 => absurd (rfl) h9) (fun _ => ?_)
  refine lv_aload_n hx hb dL_law_355 rfl (lv_at hl 1 rfl) ?_
  refine lv_iconst (v := 2) hx hb dL_law_356 (by decide) ?_
  refine ow_Si (As := [.ref at_, .int ((2 : Int32))]) (rest := []) ⟨hx, hb, hml, hown, hts⟩ (oL_account l hst D y H.size at_ V ((2 : Int32)) hO) (vx_cwSW 2 hts gL_law_L_account rfl rfl rfl (by decide +kernel) ⟨(Nat.le_of_ble_eq_true rfl), (Nat.le_of_ble_eq_true rfl)⟩) hK hP hD hS hA hZ hN hJ rfl hl.1 rfl (Nat.le_of_ble_eq_true rfl) dL_law_357 ⟨by show C + 1 + 3 + 1 + 3 + 1 + 1 + 1 + 1 + 1 + 4 + 4 + 1 + 1 + 2 + 2 + 1 + 1 ≤ 739810; omega, by show S + 6 + 18 + 6 + 18 + 6 + 6 + 6 + 6 + 6 + 24 + 24 + 6 + 6 + 12 + 12 + 6 + 6 ≤ 6872417; omega⟩ (fun r9 V H locs h9 hP hD hS => ?_)
  obtain ⟨rfl, hO⟩ := h9
  refine s1_is (z := 276) (by decide +kernel) ?_
  refine lv_sipush (v := 276) hx hb dL_law_360 (by decide) ?_
  refine lv_icmp_ne (tgt := 377) hx hb dL_law_363 (by decide) (fun h9 => absurd (rfl) h9) (fun _ => ?_)
  refine lv_aload_n hx hb dL_law_366 rfl (lv_at hl 1 rfl) ?_
  refine lv_bipush (v := 8) hx hb dL_law_367 (by decide) ?_
  refine ow_Si (As := [.ref at_, .int ((8 : Int32))]) (rest := []) ⟨hx, hb, hml, hown, hts⟩ (oL_account l hst D y H.size at_ V ((8 : Int32)) hO) (vx_cwSW 2 hts gL_law_L_account rfl rfl rfl (by decide +kernel) ⟨(Nat.le_of_ble_eq_true rfl), (Nat.le_of_ble_eq_true rfl)⟩) hK hP hD hS hA hZ hN hJ rfl hl.1 rfl (Nat.le_of_ble_eq_true rfl) dL_law_369 ⟨by show C + 1 + 3 + 1 + 3 + 1 + 1 + 1 + 1 + 1 + 4 + 4 + 1 + 1 + 2 + 2 + 1 + 1 + 1 ≤ 739810; omega, by show S + 6 + 18 + 6 + 18 + 6 + 6 + 6 + 6 + 6 + 24 + 24 + 6 + 6 + 12 + 12 + 6 + 6 + 6 ≤ 6872417; omega⟩ (fun r9 V H locs h9 hP hD hS => ?_)
  obtain ⟨rfl, hO⟩ := h9
  refine s1_is (z := 8) (by decide +kernel) ?_
  refine lv_bipush (v := 8) hx hb dL_law_372 (by decide) ?_
  refine lv_icmp_eq (tgt := 379) hx hb dL_law_374 (by decide) (fun _ => ?_) (fun h9 => absurd (rfl) h9)
  exact k0 _ _ (by omega) (by omega) _ _ _ (trivial) hO H locs hP hD hS ls (lv_sub hl [0, 1] rfl)
set_option maxHeartbeats 4000000 in
set_option maxRecDepth 100000 in
theorem le_F {p : Program} {l : Launch} {e : Env} {s : State} {mi : MethodId} {args : Array Value} {below : List Frame} {meth : Method} {c : Code} {D : va_G} {y : Nat → ClassId} {A : Nat → Prop} {Q : State → Prop} {at_ : Nat} {b : Nat} {tx : Nat → Int32} (hst : l.stackTraces = false) (C0 : mC p l c mi s args D y A cL_law 11 wsL_law) (k0 : mW p l e (rmx 2048 94400 739810 6872417) s mi args below meth c D y A at_ ((gq 17)) [] ((some lad0)) 4 ((nI 0)) 0 ((nI 0)) 0 tx (anyT) [] Q 11 527 [(0, .ref b), (1, .ref at_)] (240) (2050)) : mW p l e (rmx 2048 94400 739810 6872417) s mi args below meth c D y A at_ ((gq 24)) ((usq 24)) ((some lad0)) 4 ((nI 0)) 0 ((nI 0)) 0 tx (anyT) [] Q 11 379 [(0, .ref b), (1, .ref at_)] (210) (1870) := by
  obtain ⟨hx, hb, hml, hown, hts, hK, hA, hZ, hN, hJ, -⟩ := C0
  intro C S hC hS9 V NN TT hPT hO H locs hP hD hS ls hl
  refine lv_aload_n hx hb dL_law_379 rfl (lv_at hl 1 rfl) ?_
  refine lv_iconst (v := 4) hx hb dL_law_380 (by decide) ?_
  refine ow_Si (As := [.ref at_, .int ((4 : Int32))]) (rest := []) ⟨hx, hb, hml, hown, hts⟩ (oL_forget l hst D y H.size at_ V ((4 : Int32)) hO) (vx_cwSW 2 hts gL_law_L_forget rfl rfl rfl (by decide +kernel) ⟨(Nat.le_of_ble_eq_true rfl), (Nat.le_of_ble_eq_true rfl)⟩) hK hP hD hS hA hZ hN hJ rfl hl.1 rfl (Nat.le_of_ble_eq_true rfl) dL_law_381 ⟨by show C + 1 ≤ 739810; omega, by show S + 6 ≤ 6872417; omega⟩ (fun r9 V H locs h9 hP hD hS => ?_)
  obtain ⟨-, h9r, -, -, hO⟩ := h9.resolve_right (fun z => z.1 (by rw [e_forR]))
  rw [e_forC] at h9r hO
  have hO : Ob y at_ gF [gq 24, gq 23, gq 22, gq 21, gq 20, gq 19, gq 18, gq 17] (some lad0) 4 (nI 0) 0 (nI 0) 0 tx _ _ V := hO
  refine lv_iconst (v := 5) hx hb dL_law_384 (by decide) ?_
  refine lv_icmp_ne (tgt := 525) hx hb dL_law_385 (by decide) (fun h9 => absurd (h9r) h9) (fun _ => ?_)
  refine lv_aload_n hx hb dL_law_388 rfl (lv_at hl 1 rfl) ?_
  refine lv_sipush (v := 999) hx hb dL_law_389 (by decide) ?_
  refine ow_Si (As := [.ref at_, .int ((999 : Int32))]) (rest := []) ⟨hx, hb, hml, hown, hts⟩ (oL_steps l hst D y H.size at_ V ((999 : Int32)) hO) (vx_cwSW 2 hts gL_law_L_steps rfl rfl rfl (by decide +kernel) ⟨(Nat.le_of_ble_eq_true rfl), (Nat.le_of_ble_eq_true rfl)⟩) hK hP hD hS hA hZ hN hJ rfl hl.1 rfl (Nat.le_of_ble_eq_true rfl) dL_law_392 ⟨by show C + 1 + 1 ≤ 739810; omega, by show S + 6 + 6 ≤ 6872417; omega⟩ (fun r9 V H locs h9 hP hD hS => ?_)
  obtain ⟨rfl, hO⟩ := h9
  refine s1_is (z := 15) (by decide +kernel) ?_
  refine lv_bipush (v := 15) hx hb dL_law_395 (by decide) ?_
  refine lv_icmp_ne (tgt := 525) hx hb dL_law_397 (by decide) (fun h9 => absurd (rfl) h9) (fun _ => ?_)
  refine lv_aload_n hx hb dL_law_400 rfl (lv_at hl 1 rfl) ?_
  refine ow_Si (As := [.ref at_]) (rest := []) ⟨hx, hb, hml, hown, hts⟩ (oL_undo l hst D y H.size at_ V  hO) (vx_cwSW 1 hts gL_law_L_undo rfl rfl rfl (by decide +kernel) ⟨(Nat.le_of_ble_eq_true rfl), (Nat.le_of_ble_eq_true rfl)⟩) hK hP hD hS hA hZ hN hJ rfl hl.1 rfl (Nat.le_of_ble_eq_true rfl) dL_law_401 ⟨by show C + 1 + 1 + 1 ≤ 739810; omega, by show S + 6 + 6 + 6 ≤ 6872417; omega⟩ (fun r9 V H locs h9 hP hD hS => ?_)
  obtain ⟨q2, vs, he, rfl, -, hO⟩ := h9.resolve_right (fun z => nomatch z.1)
  obtain ⟨rfl, rfl⟩ := List.cons.inj he
  refine lv_bipush (v := 7) hx hb dL_law_404 (by decide) ?_
  refine lv_icmp_ne (tgt := 525) hx hb dL_law_406 (by decide) (fun h9 => absurd (rfl) h9) (fun _ => ?_)
  refine lv_aload_n hx hb dL_law_409 rfl (lv_at hl 1 rfl) ?_
  refine lv_bipush (v := 6) hx hb dL_law_410 (by decide) ?_
  refine ow_Si (As := [.ref at_, .int ((6 : Int32))]) (rest := []) ⟨hx, hb, hml, hown, hts⟩ (oL_account l hst D y H.size at_ V ((6 : Int32)) hO) (vx_cwSW 2 hts gL_law_L_account rfl rfl rfl (by decide +kernel) ⟨(Nat.le_of_ble_eq_true rfl), (Nat.le_of_ble_eq_true rfl)⟩) hK hP hD hS hA hZ hN hJ rfl hl.1 rfl (Nat.le_of_ble_eq_true rfl) dL_law_412 ⟨by show C + 1 + 1 + 1 + 1 ≤ 739810; omega, by show S + 6 + 6 + 6 + 6 ≤ 6872417; omega⟩ (fun r9 V H locs h9 hP hD hS => ?_)
  obtain ⟨rfl, hO⟩ := h9
  refine s1_is (z := 0) (by decide +kernel) ?_
  refine lv_if_ne (tgt := 525) hx hb dL_law_415 (by decide) (fun h9 => absurd (rfl) h9) (fun _ => ?_)
  refine lv_aload_n hx hb dL_law_418 rfl (lv_at hl 1 rfl) ?_
  refine ow_Si (As := [.ref at_]) (rest := []) ⟨hx, hb, hml, hown, hts⟩ (oL_undo l hst D y H.size at_ V  hO) (vx_cwSW 1 hts gL_law_L_undo rfl rfl rfl (by decide +kernel) ⟨(Nat.le_of_ble_eq_true rfl), (Nat.le_of_ble_eq_true rfl)⟩) hK hP hD hS hA hZ hN hJ rfl hl.1 rfl (Nat.le_of_ble_eq_true rfl) dL_law_419 ⟨by show C + 1 + 1 + 1 + 1 + 1 ≤ 739810; omega, by show S + 6 + 6 + 6 + 6 + 6 ≤ 6872417; omega⟩ (fun r9 V H locs h9 hP hD hS => ?_)
  obtain ⟨q2, vs, he, rfl, -, hO⟩ := h9.resolve_right (fun z => nomatch z.1)
  obtain ⟨rfl, rfl⟩ := List.cons.inj he
  refine lv_bipush (v := 6) hx hb dL_law_422 (by decide) ?_
  refine lv_icmp_ne (tgt := 525) hx hb dL_law_424 (by decide) (fun h9 => absurd (rfl) h9) (fun _ => ?_)
  refine lv_aload_n hx hb dL_law_427 rfl (lv_at hl 1 rfl) ?_
  refine lv_iconst (v := 0) hx hb dL_law_428 (by decide) ?_
  refine ow_Si (As := [.ref at_, .int ((0 : Int32))]) (rest := []) ⟨hx, hb, hml, hown, hts⟩ (oL_account l hst D y H.size at_ V ((0 : Int32)) hO) (vx_cwSW 2 hts gL_law_L_account rfl rfl rfl (by decide +kernel) ⟨(Nat.le_of_ble_eq_true rfl), (Nat.le_of_ble_eq_true rfl)⟩) hK hP hD hS hA hZ hN hJ rfl hl.1 rfl (Nat.le_of_ble_eq_true rfl) dL_law_429 ⟨by show C + 1 + 1 + 1 + 1 + 1 + 1 ≤ 739810; omega, by show S + 6 + 6 + 6 + 6 + 6 + 6 ≤ 6872417; omega⟩ (fun r9 V H locs h9 hP hD hS => ?_)
  obtain ⟨rfl, hO⟩ := h9
  refine s1_is (z := 23) (by decide +kernel) ?_
  refine lv_bipush (v := 23) hx hb dL_law_432 (by decide) ?_
  refine lv_icmp_ne (tgt := 525) hx hb dL_law_434 (by decide) (fun h9 => absurd (rfl) h9) (fun _ => ?_)
  refine lv_aload_n hx hb dL_law_437 rfl (lv_at hl 1 rfl) ?_
  refine lv_iconst (v := 0) hx hb dL_law_438 (by decide) ?_
  refine ow_Si (As := [.ref at_, .int ((0 : Int32))]) (rest := []) ⟨hx, hb, hml, hown, hts⟩ (oL_keyAt l hst D y H.size at_ V ((0 : Int32)) hO) (vx_cwSW 2 hts gL_law_L_keyAt rfl rfl rfl (by decide +kernel) ⟨(Nat.le_of_ble_eq_true rfl), (Nat.le_of_ble_eq_true rfl)⟩) hK hP hD hS hA hZ hN hJ rfl hl.1 rfl (Nat.le_of_ble_eq_true rfl) dL_law_439 ⟨by show C + 1 + 1 + 1 + 1 + 1 + 1 + 1 ≤ 739810; omega, by show S + 6 + 6 + 6 + 6 + 6 + 6 + 6 ≤ 6872417; omega⟩ (fun r9 V H locs h9 hP hD hS => ?_)
  obtain ⟨rfl, hO⟩ := h9
  refine s1_is (z := 40) (by decide +kernel) ?_
  refine lv_bipush (v := 40) hx hb dL_law_442 (by decide) ?_
  refine lv_icmp_ne (tgt := 525) hx hb dL_law_444 (by decide) (fun h9 => absurd (rfl) h9) (fun _ => ?_)
  refine lv_aload_n hx hb dL_law_447 rfl (lv_at hl 1 rfl) ?_
  refine ow_Si (As := [.ref at_]) (rest := []) ⟨hx, hb, hml, hown, hts⟩ (oL_undo l hst D y H.size at_ V  hO) (vx_cwSW 1 hts gL_law_L_undo rfl rfl rfl (by decide +kernel) ⟨(Nat.le_of_ble_eq_true rfl), (Nat.le_of_ble_eq_true rfl)⟩) hK hP hD hS hA hZ hN hJ rfl hl.1 rfl (Nat.le_of_ble_eq_true rfl) dL_law_448 ⟨by show C + 1 + 1 + 1 + 1 + 1 + 1 + 1 + 1 ≤ 739810; omega, by show S + 6 + 6 + 6 + 6 + 6 + 6 + 6 + 6 ≤ 6872417; omega⟩ (fun r9 V H locs h9 hP hD hS => ?_)
  obtain ⟨q2, vs, he, rfl, -, hO⟩ := h9.resolve_right (fun z => nomatch z.1)
  obtain ⟨rfl, rfl⟩ := List.cons.inj he
  refine lv_iconst (v := 5) hx hb dL_law_451 (by decide) ?_
  refine lv_icmp_ne (tgt := 525) hx hb dL_law_452 (by decide) (fun h9 => absurd (rfl) h9) (fun _ => ?_)
  refine lv_aload_n hx hb dL_law_455 rfl (lv_at hl 1 rfl) ?_
  refine ow_Si (As := [.ref at_]) (rest := []) ⟨hx, hb, hml, hown, hts⟩ (oL_undo l hst D y H.size at_ V  hO) (vx_cwSW 1 hts gL_law_L_undo rfl rfl rfl (by decide +kernel) ⟨(Nat.le_of_ble_eq_true rfl), (Nat.le_of_ble_eq_true rfl)⟩) hK hP hD hS hA hZ hN hJ rfl hl.1 rfl (Nat.le_of_ble_eq_true rfl) dL_law_456 ⟨by show C + 1 + 1 + 1 + 1 + 1 + 1 + 1 + 1 + 1 ≤ 739810; omega, by show S + 6 + 6 + 6 + 6 + 6 + 6 + 6 + 6 + 6 ≤ 6872417; omega⟩ (fun r9 V H locs h9 hP hD hS => ?_)
  obtain ⟨q2, vs, he, rfl, -, hO⟩ := h9.resolve_right (fun z => nomatch z.1)
  obtain ⟨rfl, rfl⟩ := List.cons.inj he
  refine lv_iconst (v := 4) hx hb dL_law_459 (by decide) ?_
  refine lv_icmp_ne (tgt := 525) hx hb dL_law_460 (by decide) (fun h9 => absurd (rfl) h9) (fun _ => ?_)
  refine lv_aload_n hx hb dL_law_463 rfl (lv_at hl 1 rfl) ?_
  refine ow_Si (As := [.ref at_]) (rest := []) ⟨hx, hb, hml, hown, hts⟩ (oL_undo l hst D y H.size at_ V  hO) (vx_cwSW 1 hts gL_law_L_undo rfl rfl rfl (by decide +kernel) ⟨(Nat.le_of_ble_eq_true rfl), (Nat.le_of_ble_eq_true rfl)⟩) hK hP hD hS hA hZ hN hJ rfl hl.1 rfl (Nat.le_of_ble_eq_true rfl) dL_law_464 ⟨by show C + 1 + 1 + 1 + 1 + 1 + 1 + 1 + 1 + 1 + 1 ≤ 739810; omega, by show S + 6 + 6 + 6 + 6 + 6 + 6 + 6 + 6 + 6 + 6 ≤ 6872417; omega⟩ (fun r9 V H locs h9 hP hD hS => ?_)
  obtain ⟨q2, vs, he, rfl, -, hO⟩ := h9.resolve_right (fun z => nomatch z.1)
  obtain ⟨rfl, rfl⟩ := List.cons.inj he
  refine lv_iconst (v := 3) hx hb dL_law_467 (by decide) ?_
  refine lv_icmp_ne (tgt := 525) hx hb dL_law_468 (by decide) (fun h9 => absurd (rfl) h9) (fun _ => ?_)
  refine lv_aload_n hx hb dL_law_471 rfl (lv_at hl 1 rfl) ?_
  refine ow_Si (As := [.ref at_]) (rest := []) ⟨hx, hb, hml, hown, hts⟩ (oL_undo l hst D y H.size at_ V  hO) (vx_cwSW 1 hts gL_law_L_undo rfl rfl rfl (by decide +kernel) ⟨(Nat.le_of_ble_eq_true rfl), (Nat.le_of_ble_eq_true rfl)⟩) hK hP hD hS hA hZ hN hJ rfl hl.1 rfl (Nat.le_of_ble_eq_true rfl) dL_law_472 ⟨by show C + 1 + 1 + 1 + 1 + 1 + 1 + 1 + 1 + 1 + 1 + 1 ≤ 739810; omega, by show S + 6 + 6 + 6 + 6 + 6 + 6 + 6 + 6 + 6 + 6 + 6 ≤ 6872417; omega⟩ (fun r9 V H locs h9 hP hD hS => ?_)
  obtain ⟨q2, vs, he, rfl, -, hO⟩ := h9.resolve_right (fun z => nomatch z.1)
  obtain ⟨rfl, rfl⟩ := List.cons.inj he
  refine lv_iconst (v := 2) hx hb dL_law_475 (by decide) ?_
  refine lv_icmp_ne (tgt := 525) hx hb dL_law_476 (by decide) (fun h9 => absurd (rfl) h9) (fun _ => ?_)
  refine lv_aload_n hx hb dL_law_479 rfl (lv_at hl 1 rfl) ?_
  refine ow_Si (As := [.ref at_]) (rest := []) ⟨hx, hb, hml, hown, hts⟩ (oL_undo l hst D y H.size at_ V  hO) (vx_cwSW 1 hts gL_law_L_undo rfl rfl rfl (by decide +kernel) ⟨(Nat.le_of_ble_eq_true rfl), (Nat.le_of_ble_eq_true rfl)⟩) hK hP hD hS hA hZ hN hJ rfl hl.1 rfl (Nat.le_of_ble_eq_true rfl) dL_law_480 ⟨by show C + 1 + 1 + 1 + 1 + 1 + 1 + 1 + 1 + 1 + 1 + 1 + 1 ≤ 739810; omega, by show S + 6 + 6 + 6 + 6 + 6 + 6 + 6 + 6 + 6 + 6 + 6 + 6 ≤ 6872417; omega⟩ (fun r9 V H locs h9 hP hD hS => ?_)
  obtain ⟨q2, vs, he, rfl, -, hO⟩ := h9.resolve_right (fun z => nomatch z.1)
  obtain ⟨rfl, rfl⟩ := List.cons.inj he
  refine lv_iconst (v := 1) hx hb dL_law_483 (by decide) ?_
  refine lv_icmp_ne (tgt := 525) hx hb dL_law_484 (by decide) (fun h9 => absurd (rfl) h9) (fun _ => ?_)
  refine lv_aload_n hx hb dL_law_487 rfl (lv_at hl 1 rfl) ?_
  refine ow_Si (As := [.ref at_]) (rest := []) ⟨hx, hb, hml, hown, hts⟩ (oL_undo l hst D y H.size at_ V  hO) (vx_cwSW 1 hts gL_law_L_undo rfl rfl rfl (by decide +kernel) ⟨(Nat.le_of_ble_eq_true rfl), (Nat.le_of_ble_eq_true rfl)⟩) hK hP hD hS hA hZ hN hJ rfl hl.1 rfl (Nat.le_of_ble_eq_true rfl) dL_law_488 ⟨by show C + 1 + 1 + 1 + 1 + 1 + 1 + 1 + 1 + 1 + 1 + 1 + 1 + 1 ≤ 739810; omega, by show S + 6 + 6 + 6 + 6 + 6 + 6 + 6 + 6 + 6 + 6 + 6 + 6 + 6 ≤ 6872417; omega⟩ (fun r9 V H locs h9 hP hD hS => ?_)
  obtain ⟨q2, vs, he, rfl, -, hO⟩ := h9.resolve_right (fun z => nomatch z.1)
  obtain ⟨rfl, rfl⟩ := List.cons.inj he
  refine lv_if_ne (tgt := 525) hx hb dL_law_491 (by decide) (fun h9 => absurd (rfl) h9) (fun _ => ?_)
  refine lv_aload_n hx hb dL_law_494 rfl (lv_at hl 1 rfl) ?_
  refine ow_Si (As := [.ref at_]) (rest := []) ⟨hx, hb, hml, hown, hts⟩ (oL_undo l hst D y H.size at_ V  hO) (vx_cwSW 1 hts gL_law_L_undo rfl rfl rfl (by decide +kernel) ⟨(Nat.le_of_ble_eq_true rfl), (Nat.le_of_ble_eq_true rfl)⟩) hK hP hD hS hA hZ hN hJ rfl hl.1 rfl (Nat.le_of_ble_eq_true rfl) dL_law_495 ⟨by show C + 1 + 1 + 1 + 1 + 1 + 1 + 1 + 1 + 1 + 1 + 1 + 1 + 1 + 1 ≤ 739810; omega, by show S + 6 + 6 + 6 + 6 + 6 + 6 + 6 + 6 + 6 + 6 + 6 + 6 + 6 + 6 ≤ 6872417; omega⟩ (fun r9 V H locs h9 hP hD hS => ?_)
  obtain ⟨-, rfl, hO⟩ := h9.resolve_left (fun z => by obtain ⟨q2, vs, z, -⟩ := z; exact nomatch z)
  refine lv_sipush (v := -1001) hx hb dL_law_498 (by decide) ?_
  refine lv_icmp_ne (tgt := 525) hx hb dL_law_501 (by decide) (fun h9 => absurd (rfl) h9) (fun _ => ?_)
  refine lv_aload_n hx hb dL_law_504 rfl (lv_at hl 1 rfl) ?_
  refine lv_iconst (v := 0) hx hb dL_law_505 (by decide) ?_
  refine ow_Si (As := [.ref at_, .int ((0 : Int32))]) (rest := []) ⟨hx, hb, hml, hown, hts⟩ (oL_account l hst D y H.size at_ V ((0 : Int32)) hO) (vx_cwSW 2 hts gL_law_L_account rfl rfl rfl (by decide +kernel) ⟨(Nat.le_of_ble_eq_true rfl), (Nat.le_of_ble_eq_true rfl)⟩) hK hP hD hS hA hZ hN hJ rfl hl.1 rfl (Nat.le_of_ble_eq_true rfl) dL_law_506 ⟨by show C + 1 + 1 + 1 + 1 + 1 + 1 + 1 + 1 + 1 + 1 + 1 + 1 + 1 + 1 + 1 ≤ 739810; omega, by show S + 6 + 6 + 6 + 6 + 6 + 6 + 6 + 6 + 6 + 6 + 6 + 6 + 6 + 6 + 6 ≤ 6872417; omega⟩ (fun r9 V H locs h9 hP hD hS => ?_)
  obtain ⟨rfl, hO⟩ := h9
  refine s1_is (z := 17) (by decide +kernel) ?_
  refine lv_bipush (v := 17) hx hb dL_law_509 (by decide) ?_
  refine lv_icmp_ne (tgt := 525) hx hb dL_law_511 (by decide) (fun h9 => absurd (rfl) h9) (fun _ => ?_)
  refine lv_aload_n hx hb dL_law_514 rfl (lv_at hl 1 rfl) ?_
  refine lv_iconst (v := 0) hx hb dL_law_515 (by decide) ?_
  refine ow_Si (As := [.ref at_, .int ((0 : Int32))]) (rest := []) ⟨hx, hb, hml, hown, hts⟩ (oL_keyAt l hst D y H.size at_ V ((0 : Int32)) hO) (vx_cwSW 2 hts gL_law_L_keyAt rfl rfl rfl (by decide +kernel) ⟨(Nat.le_of_ble_eq_true rfl), (Nat.le_of_ble_eq_true rfl)⟩) hK hP hD hS hA hZ hN hJ rfl hl.1 rfl (Nat.le_of_ble_eq_true rfl) dL_law_516 ⟨by show C + 1 + 1 + 1 + 1 + 1 + 1 + 1 + 1 + 1 + 1 + 1 + 1 + 1 + 1 + 1 + 1 ≤ 739810; omega, by show S + 6 + 6 + 6 + 6 + 6 + 6 + 6 + 6 + 6 + 6 + 6 + 6 + 6 + 6 + 6 + 6 ≤ 6872417; omega⟩ (fun r9 V H locs h9 hP hD hS => ?_)
  obtain ⟨rfl, hO⟩ := h9
  refine s1_is (z := 280) (by decide +kernel) ?_
  refine lv_sipush (v := 280) hx hb dL_law_519 (by decide) ?_
  refine lv_icmp_eq (tgt := 527) hx hb dL_law_522 (by decide) (fun _ => ?_) (fun h9 => absurd (rfl) h9)
  exact k0 _ _ (by omega) (by omega) _ _ _ (trivial) hO H locs hP hD hS ls (lv_sub hl [0, 1] rfl)
set_option maxHeartbeats 4000000 in
set_option maxRecDepth 100000 in
theorem le_G {p : Program} {l : Launch} {e : Env} {s : State} {mi : MethodId} {args : Array Value} {below : List Frame} {meth : Method} {c : Code} {D : va_G} {y : Nat → ClassId} {A : Nat → Prop} {Q : State → Prop} {at_ : Nat} {b : Nat} {tx : Nat → Int32} (hst : l.stackTraces = false) (C0 : mC p l c mi s args D y A cL_law 11 wsL_law) (k0 : ∀ C S : Nat, C ≤ 250 → S ≤ 2100 → ∀ (H : Heap) (locs : List Loc), va_S A s.heap H locs → ∀ ls : Array Slot, lv_has ls 11 [(0, .ref b)] → W p l e (rmx 2048 94400 739810 6872417) s mi args below meth c H locs C S Q (F0 mi 563 ls [])) : mW p l e (rmx 2048 94400 739810 6872417) s mi args below meth c D y A at_ ((gq 17)) [] ((some lad0)) 4 ((nI 0)) 0 ((nI 0)) 0 tx (anyT) [] Q 11 527 [(0, .ref b), (1, .ref at_)] (240) (2050) := by
  obtain ⟨hx, hb, hml, hown, hts, hK, hA, hZ, hN, hJ, -⟩ := C0
  intro C S hC hS9 V NN TT hPT hO H locs hP hD hS ls hl
  refine lv_aload_n hx hb dL_law_527 rfl (lv_at hl 1 rfl) ?_
  refine ow_Si (As := [.ref at_]) (rest := []) ⟨hx, hb, hml, hown, hts⟩ (oL_restore l hst D y H.size at_ V  hO) (vx_cwSW 1 hts gL_law_L_restore rfl rfl rfl (by decide +kernel) ⟨(Nat.le_of_ble_eq_true rfl), (Nat.le_of_ble_eq_true rfl)⟩) hK hP hD hS hA hZ hN hJ rfl hl.1 rfl (Nat.le_of_ble_eq_true rfl) dL_law_528 ⟨by show C + 1 ≤ 739810; omega, by show S + 6 ≤ 6872417; omega⟩ (fun r9 V H locs h9 hP hD hS => ?_)
  obtain ⟨q2, he, rfl, -, hO⟩ := h9.resolve_right (fun z => nomatch z.1)
  obtain rfl := Option.some.inj he
  refine lv_if_ne (tgt := 561) hx hb dL_law_531 (by decide) (fun h9 => absurd (rfl) h9) (fun _ => ?_)
  refine lv_aload_n hx hb dL_law_534 rfl (lv_at hl 1 rfl) ?_
  refine lv_iconst (v := 0) hx hb dL_law_535 (by decide) ?_
  refine ow_Si (As := [.ref at_, .int ((0 : Int32))]) (rest := []) ⟨hx, hb, hml, hown, hts⟩ (oL_account l hst D y H.size at_ V ((0 : Int32)) hO) (vx_cwSW 2 hts gL_law_L_account rfl rfl rfl (by decide +kernel) ⟨(Nat.le_of_ble_eq_true rfl), (Nat.le_of_ble_eq_true rfl)⟩) hK hP hD hS hA hZ hN hJ rfl hl.1 rfl (Nat.le_of_ble_eq_true rfl) dL_law_536 ⟨by show C + 1 + 1 ≤ 739810; omega, by show S + 6 + 6 ≤ 6872417; omega⟩ (fun r9 V H locs h9 hP hD hS => ?_)
  obtain ⟨rfl, hO⟩ := h9
  refine s1_is (z := 0) (by decide +kernel) ?_
  refine lv_if_ne (tgt := 561) hx hb dL_law_539 (by decide) (fun h9 => absurd (rfl) h9) (fun _ => ?_)
  refine lv_aload_n hx hb dL_law_542 rfl (lv_at hl 1 rfl) ?_
  refine lv_iconst (v := 3) hx hb dL_law_543 (by decide) ?_
  refine ow_Si (As := [.ref at_, .int ((3 : Int32))]) (rest := []) ⟨hx, hb, hml, hown, hts⟩ (oL_account l hst D y H.size at_ V ((3 : Int32)) hO) (vx_cwSW 2 hts gL_law_L_account rfl rfl rfl (by decide +kernel) ⟨(Nat.le_of_ble_eq_true rfl), (Nat.le_of_ble_eq_true rfl)⟩) hK hP hD hS hA hZ hN hJ rfl hl.1 rfl (Nat.le_of_ble_eq_true rfl) dL_law_544 ⟨by show C + 1 + 1 + 1 ≤ 739810; omega, by show S + 6 + 6 + 6 ≤ 6872417; omega⟩ (fun r9 V H locs h9 hP hD hS => ?_)
  obtain ⟨rfl, hO⟩ := h9
  refine s1_is (z := 1) (by decide +kernel) ?_
  refine lv_iconst (v := 1) hx hb dL_law_547 (by decide) ?_
  refine lv_icmp_ne (tgt := 561) hx hb dL_law_548 (by decide) (fun h9 => absurd (rfl) h9) (fun _ => ?_)
  refine lv_aload_n hx hb dL_law_551 rfl (lv_at hl 1 rfl) ?_
  refine ow_Si (As := [.ref at_]) (rest := []) ⟨hx, hb, hml, hown, hts⟩ (oL_undo l hst D y H.size at_ V  hO) (vx_cwSW 1 hts gL_law_L_undo rfl rfl rfl (by decide +kernel) ⟨(Nat.le_of_ble_eq_true rfl), (Nat.le_of_ble_eq_true rfl)⟩) hK hP hD hS hA hZ hN hJ rfl hl.1 rfl (Nat.le_of_ble_eq_true rfl) dL_law_552 ⟨by show C + 1 + 1 + 1 + 1 ≤ 739810; omega, by show S + 6 + 6 + 6 + 6 ≤ 6872417; omega⟩ (fun r9 V H locs h9 hP hD hS => ?_)
  obtain ⟨-, rfl, hO⟩ := h9.resolve_left (fun z => by obtain ⟨q2, vs, z, -⟩ := z; exact nomatch z)
  refine lv_sipush (v := -1001) hx hb dL_law_555 (by decide) ?_
  refine lv_icmp_eq (tgt := 563) hx hb dL_law_558 (by decide) (fun _ => ?_) (fun h9 => absurd (rfl) h9)
  exact k0 _ _ (by omega) (by omega) H locs hS ls (lv_sub hl [0] rfl)
