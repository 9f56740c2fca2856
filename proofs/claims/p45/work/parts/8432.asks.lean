/-! asks: its answer as a function of the ladder's ghost -/
def ak0 (q : Lad) : Int64 := 31 * (lq_meanSteps q).toInt64 + ((lq_meanRungs q).toInt32).toInt64
def ak1 (q : Lad) (j : Nat) (x : Int64) : Int64 := 31 * x + (lq_account q 0 0 (nI j)).toInt64
def ak2a (q : Lad) (key : Int32) (j : Nat) (x : Int64) : Int64 := 31 * x + (lq_folderOf q key (nI j)).toInt64
def ak2b (q : Lad) (key : Int32) (j : Nat) (x : Int64) : Int64 := 31 * x + (lq_span q key (nI j)).toInt64
def ak2m (q : Lad) (key : Int32) (x : Int64) : Int64 := 31 * (31 * (31 * x + (lq_stepsAgain q key).toInt64) + (lq_falls q key).toInt64) + (lq_placeOf q key 1).toInt64
def ak2 (q : Lad) (j : Nat) (x : Int64) : Int64 := lpL (ak2b q (lq_keyAt q (nI j))) 5 (ak2m q (lq_keyAt q (nI j)) (lpL (ak2a q (lq_keyAt q (nI j))) 4 (31 * x + (lq_keyAt q (nI j)).toInt64)))
def ak3c (q : Lad) (L : Nat) (j : Nat) (x : Int64) : Int64 := 31 * x + (nI ((lnq q (nI L)).1 j)).toInt64
def ak3m (q : Lad) (L : Nat) (x : Int64) : Int64 := 31 * (31 * (31 * x + (lq_levelSize q (nI L)).toInt64) + (lq_headSpan q (nI L)).toInt64) + (lq_isForgotten q (nI L)).toInt64
def ak3 (q : Lad) (L : Nat) (x : Int64) : Int64 := lpL (ak3c q L) (lnq q (nI L)).2 (ak3m q L x)
def ak4 (q : Lad) (j : Nat) (x : Int64) : Int64 := 31 * (31 * (31 * (31 * (31 * x + (lq_rank q (nI (111 * j))).toInt64) + (lq_rankAgain q (nI (111 * j))).toInt64) + (lq_floor q (nI (111 * j))).toInt64) + (lq_ceiling q (nI (111 * j))).toInt64) + (lq_steps q (nI (111 * j))).toInt64
def ak5 (q : Lad) (x : Int64) : Int64 := 31 * (31 * (31 * (31 * (31 * x + (lq_count q 30 700).toInt64) + (lq_countAgain q 30 700).toInt64) + (lq_weightIn q 5 500).toInt64) + (lq_heaviestIn q 5 500).toInt64) + 31 * (lq_longestSearch q).toInt64 + (qv_nextRungs q).toInt64
def askV (q : Lad) : Int64 := ak5 q (lpL (ak4 q) 10 (lpL (ak3 q) 5 (lpL (ak2 q) q.1.toNatClampNeg (lpL (ak1 q) 8 (ak0 q)))))
theorem lpL_0 (f : Nat → Int64 → Int64) (x : Int64) : lpL f 0 x = x := rfl
theorem lpL_s (f : Nat → Int64 → Int64) (j : Nat) (x : Int64) : lpL f (j + 1) x = f j (lpL f j x) := rfl
theorem ak2_e (q : Lad) (j : Nat) (x : Int64) : ak2 q j x = lpL (ak2b q (lq_keyAt q (nI j))) 5 (ak2m q (lq_keyAt q (nI j)) (lpL (ak2a q (lq_keyAt q (nI j))) 4 (31 * x + (lq_keyAt q (nI j)).toInt64))) := rfl
theorem ak3_e (q : Lad) (j : Nat) (x : Int64) : ak3 q j x = lpL (ak3c q j) (lnq q (nI j)).2 (ak3m q j x) := rfl
theorem acc_ind {q : Lad} {u le : Int32} : ∀ j, j < 8 → lq_account q u le (nI j) = lq_account q 0 0 (nI j) := by
  intro j hj
  have e : qv_account q u le (nI j) = qv_account q 0 0 (nI j) := by
    unfold qv_account F_X7_account
    match j, hj with
    | 0, _ => rfl
    | 1, _ => rfl
    | 2, _ => rfl
    | 3, _ => rfl
    | 4, _ => rfl
    | 5, _ => rfl
    | 6, _ => rfl
    | 7, _ => rfl
  unfold lq_account
  rw [e]
theorem acc_0 {q : Lad} {u le : Int32} : lq_account q u le 0 = q.1 := by
  have e : qv_account q u le 0 = (0, q.1) := by
    unfold qv_account F_X7_account F_X3_size
    rfl
  unfold lq_account
  rw [e]; rfl
theorem GL_n {q : Lad} (h : GL q) : ∃ n, n ≤ 24 ∧ q.1 = nI n ∧ q.1.toNatClampNeg = n := by
  obtain ⟨⟨a, n, h1, h2, -⟩, -⟩ := h
  have := h2.1
  exact ⟨n, h2.1, h1, by rw [h1, nI_clamp (by omega)]⟩
theorem dLv5 : ∀ j, j < 5 → dLv (nI j) = 0 := by
  intro j hj
  have : ∀ j : Fin 5, dLv (nI j.val) = 0 := by decide +kernel
  exact this ⟨j, hj⟩
theorem lnq_le {q : Lad} (h : GL q) {L : Nat} (hL : L < 5) : (lnq q (nI L)).2 ≤ 99 := by
  obtain ⟨⟨a, n, h1, h2, -⟩, -⟩ := h
  have hn := h2.1
  unfold lnq
  rw [h1, nI_clamp (by omega)]
  exact lnT_le hn h2.2.2.2.1 (by omega)
set_option maxHeartbeats 4000000 in
set_option maxRecDepth 100000 in
theorem as_0 {p : Program} {l : Launch} {e : Env} {s : State} {mi : MethodId} {args : Array Value} {below : List Frame} {meth : Method} {c : Code} {D : va_G} {y : Nat → ClassId} {A : Nat → Prop} {Q : State → Prop} {at_ : Nat} {q : Lad} {us : List Lad} {sv : Option Lad} {rs dt ix lf : Int32} {M : Nat} {tx : Nat → Int32} (hst : l.stackTraces = false) (C0 : mC p l c mi s args D y A cL_asks 6 wsL_asks) (k : mW p l e (rmx 14 460 2300 12000) s mi args below meth c D y A at_ q us sv rs dt ix lf M tx (anyT) [] Q 6 23 [(0, .ref at_), (1, .long (ak0 q)), (3, .int (nI 0))] (2) (12)) : mW p l e (rmx 14 460 2300 12000) s mi args below meth c D y A at_ q us sv rs dt ix lf M tx (anyT) [] Q 6 0 [(0, .ref at_)] (0) (0) := by
  obtain ⟨hx, hb, hml, hown, hts, hK, hA, hZ, hN, hJ, -⟩ := C0
  intro C S hC hS9 V NN TT hPT hO H locs hP hD hS ls hl
  refine lv_ldc2 (v := 31) hx hb hown (hts (.constantLong RL 185 (31)) (List.mem_of_getElem? (i := 1) rfl)) dL_asks_0 ?_
  refine lv_aload_n hx hb dL_asks_3 rfl (lv_at hl 0 rfl) ?_
  refine ow_Sd (As := [.ref at_]) (rest := [.long ((31 : Int64))]) ⟨hx, hb, hml, hown, hts⟩ (oL_meanSteps l hst D y H.size at_ V hO) (vx_cwSW 1 hts gL_asks_L_meanSteps rfl rfl rfl (by decide +kernel) ⟨(Nat.le_of_ble_eq_true rfl), (Nat.le_of_ble_eq_true rfl)⟩) hK hP hD hS hA hZ hN hJ rfl hl.1 rfl (Nat.le_of_ble_eq_true rfl) dL_asks_4 ⟨by show C + 1 ≤ 2300; omega, by show S + 6 ≤ 12000; omega⟩ (fun r9 V H locs h9 hP hD hS => ?_)
  obtain ⟨rfl, hO⟩ := h9
  refine ow_Ml (As := [.double (lq_meanSteps q)]) (rest := [.long ((31 : Int64))]) ⟨hx, hb, hml, hown, hts⟩ (o_dtl l D y H.size (lq_meanSteps q) (okD_ms (Ob_GL hO)) V) (va_cwS 1 hts gL_asks_Jxe99ae_doubleToLongBits_ccdee rfl rfl rfl (by decide +kernel) ⟨(Nat.le_of_ble_eq_true rfl), (Nat.le_of_ble_eq_true rfl)⟩) hK hP hD hS hA hZ hN hJ rfl hl.1 rfl (Nat.le_of_ble_eq_true rfl) dL_asks_7 ⟨by show C + 1 + 0 ≤ 2300; omega, by show S + 6 + 0 ≤ 12000; omega⟩ (fun r9 V H locs h9 hP hD hS => ?_)
  obtain ⟨rfl, hV9⟩ := h9; have hO := Ob_eq hV9 hO
  refine lv_lmul hx hb dL_asks_10 ?_
  refine lv_aload_n hx hb dL_asks_11 rfl (lv_at hl 0 rfl) ?_
  refine ow_Sf (As := [.ref at_]) (rest := [.long (((31 : Int64)) * ((lq_meanSteps q).toInt64))]) ⟨hx, hb, hml, hown, hts⟩ (oL_meanRungs l hst D y H.size at_ V hO) (vx_cwSW 1 hts gL_asks_L_meanRungs rfl rfl rfl (by decide +kernel) ⟨(Nat.le_of_ble_eq_true rfl), (Nat.le_of_ble_eq_true rfl)⟩) hK hP hD hS hA hZ hN hJ rfl hl.1 rfl (Nat.le_of_ble_eq_true rfl) dL_asks_12 ⟨by show C + 1 + 0 + 1 ≤ 2300; omega, by show S + 6 + 0 + 6 ≤ 12000; omega⟩ (fun r9 V H locs h9 hP hD hS => ?_)
  obtain ⟨rfl, hO⟩ := h9
  refine ow_Mi (As := [.float (lq_meanRungs q)]) (rest := [.long (((31 : Int64)) * ((lq_meanSteps q).toInt64))]) ⟨hx, hb, hml, hown, hts⟩ (o_fti l D y H.size (lq_meanRungs q) (okF_mr (Ob_GL hO)) V) (va_cwS 1 hts gL_asks_Jxf58ca_floatToIntBits_5c35a rfl rfl rfl (by decide +kernel) ⟨(Nat.le_of_ble_eq_true rfl), (Nat.le_of_ble_eq_true rfl)⟩) hK hP hD hS hA hZ hN hJ rfl hl.1 rfl (Nat.le_of_ble_eq_true rfl) dL_asks_15 ⟨by show C + 1 + 0 + 1 + 0 ≤ 2300; omega, by show S + 6 + 0 + 6 + 0 ≤ 12000; omega⟩ (fun r9 V H locs h9 hP hD hS => ?_)
  obtain ⟨rfl, hV9⟩ := h9; have hO := Ob_eq hV9 hO
  refine lv_i2l hx hb dL_asks_18 rfl ?_
  refine lv_ladd hx hb dL_asks_19 ?_
  refine lv_lstore_n (lv' := [(1, .long ((((31 : Int64)) * ((lq_meanSteps q).toInt64)) + (((lq_meanRungs q).toInt32).toInt64))), (0, .ref at_)]) hx hb dL_asks_20 rfl hl (by decide) rfl (fun ls hl => ?_)
  refine lv_iconst (v := 0) hx hb dL_asks_21 (by decide) ?_
  refine lv_istore_n (lv' := [(3, .int ((0 : Int32))), (1, .long ((((31 : Int64)) * ((lq_meanSteps q).toInt64)) + (((lq_meanRungs q).toInt32).toInt64))), (0, .ref at_)]) hx hb dL_asks_22 rfl hl (by decide) rfl (fun ls hl => ?_)
  exact k _ _ (by omega) (by omega) _ _ _ (trivial) hO H locs hP hD hS ls (lv_sub hl [2, 1, 0] rfl)
set_option maxHeartbeats 4000000 in
set_option maxRecDepth 100000 in
theorem as_L1 {p : Program} {l : Launch} {e : Env} {s : State} {mi : MethodId} {args : Array Value} {below : List Frame} {meth : Method} {c : Code} {D : va_G} {y : Nat → ClassId} {A : Nat → Prop} {Q : State → Prop} {at_ : Nat} {q : Lad} {us : List Lad} {sv : Option Lad} {rs dt ix lf : Int32} {M : Nat} {tx : Nat → Int32} (hst : l.stackTraces = false) (C0 : mC p l c mi s args D y A cL_asks 6 wsL_asks) (x0 : Int64) (k : mW p l e (rmx 14 460 2300 12000) s mi args below meth c D y A at_ q us sv rs dt ix lf M tx (anyT) [] Q 6 48 [(0, .ref at_), (1, .long (lpL (ak1 q) 8 x0))] (10) (60)) : ∀ d j : Nat, j + d = 8 → mW p l e (rmx 14 460 2300 12000) s mi args below meth c D y A at_ q us sv rs dt ix lf M tx (anyT) [] Q 6 23 [(0, .ref at_), (1, .long (lpL (ak1 q) j x0)), (3, .int (nI j))] (2 + j) (12 + 6 * j) := by
  have C1 := C0
  obtain ⟨hx, hb, hml, hown, hts, hK, hA, hZ, hN, hJ, -⟩ := C0
  intro d
  induction d with
  | zero =>
    intro j hj
    obtain rfl : j = 8 := by omega
    intro C S hC hS9 V NN TT hPT hO H locs hP hD hS ls hl
    refine lv_iload_n hx hb dL_asks_23 rfl (lv_at hl 2 rfl) ?_
    refine lv_bipush (v := 8) hx hb dL_asks_24 (by decide) ?_
    refine lv_icmp_ge (tgt := 48) hx hb dL_asks_26 (by decide) (fun _ => ?_) (fun h9 => absurd ((nI_leI (a := 8) (b := 8) (by omega) (by omega)).mpr (by omega)) h9)
    exact k _ _ (by omega) (by omega) _ _ _ (trivial) hO H locs hP hD hS ls (lv_sub hl [0, 1] rfl)
  | succ d ih =>
    intro j hj
    intro C S hC hS9 V NN TT hPT hO H locs hP hD hS ls hl
    refine lv_iload_n hx hb dL_asks_23 rfl (lv_at hl 2 rfl) ?_
    refine lv_bipush (v := 8) hx hb dL_asks_24 (by decide) ?_
    refine lv_icmp_ge (tgt := 48) hx hb dL_asks_26 (by decide) (fun h9 => absurd h9 (fun z => by have := (nI_leI (a := 8) (b := j) (by omega) (by omega)).mp z; omega)) (fun _ => ?_)
    refine lv_ldc2 (v := 31) hx hb hown (hts (.constantLong RL 185 (31)) (List.mem_of_getElem? (i := 1) rfl)) dL_asks_29 ?_
    refine lv_lload_n hx hb dL_asks_32 rfl (lv_at hl 1 rfl) ?_
    refine lv_lmul hx hb dL_asks_33 ?_
    refine lv_aload_n hx hb dL_asks_34 rfl (lv_at hl 0 rfl) ?_
    refine lv_iload_n hx hb dL_asks_35 rfl (lv_at hl 2 rfl) ?_
    refine ow_Si (As := [.ref at_, .int (nI j)]) (rest := [.long (((31 : Int64)) * (lpL (ak1 q) j x0))]) ⟨hx, hb, hml, hown, hts⟩ (oL_account l hst D y H.size at_ V (nI j) hO) (vx_cwSW 2 hts gL_asks_L_account rfl rfl rfl (by decide +kernel) ⟨(Nat.le_of_ble_eq_true rfl), (Nat.le_of_ble_eq_true rfl)⟩) hK hP hD hS hA hZ hN hJ rfl hl.1 rfl (Nat.le_of_ble_eq_true rfl) dL_asks_36 ⟨by show C + 1 ≤ 2300; omega, by show S + 6 ≤ 12000; omega⟩ (fun r9 V H locs h9 hP hD hS => ?_)
    obtain ⟨rfl, hO⟩ := h9
    refine s1_is (z := lq_account q 0 0 (nI j)) (acc_ind j (by omega)) ?_
    refine lv_i2l hx hb dL_asks_39 rfl ?_
    refine lv_ladd hx hb dL_asks_40 ?_
    refine lv_lstore_n (lv' := [(1, .long ((((31 : Int64)) * (lpL (ak1 q) j x0)) + ((lq_account q 0 0 (nI j)).toInt64))), (0, .ref at_), (3, .int (nI j))]) hx hb dL_asks_41 rfl hl (by decide) rfl (fun ls hl => ?_)
    refine lv_iinc (v := nI (j + 1)) (lv' := [(3, .int (nI (j + 1))), (1, .long ((((31 : Int64)) * (lpL (ak1 q) j x0)) + ((lq_account q 0 0 (nI j)).toInt64))), (0, .ref at_)]) hx hb dL_asks_42 hl (k := 2) rfl (nI_1 j) (by decide) rfl (fun ls hl => ?_)
    refine lv_goto (tgt := 23) hx hb dL_asks_45 (by decide) ?_
    exact (ih (j + 1) (by omega)) _ _ (by omega) (by omega) _ _ _ (trivial) hO H locs hP hD hS ls (lv_sub hl [2, 1, 0] rfl)
set_option maxHeartbeats 4000000 in
set_option maxRecDepth 100000 in
theorem as_1 {p : Program} {l : Launch} {e : Env} {s : State} {mi : MethodId} {args : Array Value} {below : List Frame} {meth : Method} {c : Code} {D : va_G} {y : Nat → ClassId} {A : Nat → Prop} {Q : State → Prop} {at_ : Nat} {q : Lad} {us : List Lad} {sv : Option Lad} {rs dt ix lf : Int32} {M : Nat} {tx : Nat → Int32} (hst : l.stackTraces = false) (C0 : mC p l c mi s args D y A cL_asks 6 wsL_asks) (x : Int64) (k : mW p l e (rmx 14 460 2300 12000) s mi args below meth c D y A at_ q us sv rs dt ix lf M tx (anyT) [] Q 6 50 [(0, .ref at_), (1, .long (x)), (3, .int (nI 0))] (10) (60)) : mW p l e (rmx 14 460 2300 12000) s mi args below meth c D y A at_ q us sv rs dt ix lf M tx (anyT) [] Q 6 48 [(0, .ref at_), (1, .long (x))] (10) (60) := by
  obtain ⟨hx, hb, hml, hown, hts, hK, hA, hZ, hN, hJ, -⟩ := C0
  intro C S hC hS9 V NN TT hPT hO H locs hP hD hS ls hl
  refine lv_iconst (v := 0) hx hb dL_asks_48 (by decide) ?_
  refine lv_istore_n (lv' := [(3, .int ((0 : Int32))), (0, .ref at_), (1, .long (x))]) hx hb dL_asks_49 rfl hl (by decide) rfl (fun ls hl => ?_)
  exact k _ _ (by omega) (by omega) _ _ _ (trivial) hO H locs hP hD hS ls (lv_sub hl [1, 2, 0] rfl)
set_option maxHeartbeats 4000000 in
set_option maxRecDepth 100000 in
theorem as_2a {p : Program} {l : Launch} {e : Env} {s : State} {mi : MethodId} {args : Array Value} {below : List Frame} {meth : Method} {c : Code} {D : va_G} {y : Nat → ClassId} {A : Nat → Prop} {Q : State → Prop} {at_ : Nat} {q : Lad} {us : List Lad} {sv : Option Lad} {rs dt ix lf : Int32} {M : Nat} {tx : Nat → Int32} (hst : l.stackTraces = false) (C0 : mC p l c mi s args D y A cL_asks 6 wsL_asks) (x : Int64) (j n : Nat) (hn : q.1 = nI n) (hn24 : n ≤ 24) (hj : j < n) (cb sb : Nat) (hcb : cb + 40 ≤ 2200) (hsb : sb + 240 ≤ 11800) (k : mW p l e (rmx 14 460 2300 12000) s mi args below meth c D y A at_ q us sv rs dt ix lf M tx (anyT) [] Q 6 79 [(0, .ref at_), (1, .long (31 * x + (lq_keyAt q (nI j)).toInt64)), (3, .int (nI j)), (4, .int ((lq_keyAt q (nI j)))), (5, .int (nI 0))] (cb + 2) (sb + 12)) : mW p l e (rmx 14 460 2300 12000) s mi args below meth c D y A at_ q us sv rs dt ix lf M tx (anyT) [] Q 6 50 [(0, .ref at_), (1, .long (x)), (3, .int (nI j))] (cb) (sb) := by
  obtain ⟨hx, hb, hml, hown, hts, hK, hA, hZ, hN, hJ, -⟩ := C0
  intro C S hC hS9 V NN TT hPT hO H locs hP hD hS ls hl
  refine lv_iload_n hx hb dL_asks_50 rfl (lv_at hl 2 rfl) ?_
  refine lv_aload_n hx hb dL_asks_51 rfl (lv_at hl 0 rfl) ?_
  refine lv_iconst (v := 0) hx hb dL_asks_52 (by decide) ?_
  refine ow_Si (As := [.ref at_, .int ((0 : Int32))]) (rest := [.int (nI j)]) ⟨hx, hb, hml, hown, hts⟩ (oL_account l hst D y H.size at_ V ((0 : Int32)) hO) (vx_cwSW 2 hts gL_asks_L_account rfl rfl rfl (by decide +kernel) ⟨(Nat.le_of_ble_eq_true rfl), (Nat.le_of_ble_eq_true rfl)⟩) hK hP hD hS hA hZ hN hJ rfl hl.1 rfl (Nat.le_of_ble_eq_true rfl) dL_asks_53 ⟨by show C + 1 ≤ 2300; omega, by show S + 6 ≤ 12000; omega⟩ (fun r9 V H locs h9 hP hD hS => ?_)
  obtain ⟨rfl, hO⟩ := h9
  refine s1_is (z := nI n) (acc_0.trans hn) ?_
  refine lv_icmp_ge (tgt := 183) hx hb dL_asks_56 (by decide) (fun h9 => absurd h9 (fun z => by have := (nI_leI (a := n) (b := j) (by omega) (by omega)).mp z; omega)) (fun _ => ?_)
  refine lv_aload_n hx hb dL_asks_59 rfl (lv_at hl 0 rfl) ?_
  refine lv_iload_n hx hb dL_asks_60 rfl (lv_at hl 2 rfl) ?_
  refine ow_Si (As := [.ref at_, .int (nI j)]) (rest := []) ⟨hx, hb, hml, hown, hts⟩ (oL_keyAt l hst D y H.size at_ V (nI j) hO) (vx_cwSW 2 hts gL_asks_L_keyAt rfl rfl rfl (by decide +kernel) ⟨(Nat.le_of_ble_eq_true rfl), (Nat.le_of_ble_eq_true rfl)⟩) hK hP hD hS hA hZ hN hJ rfl hl.1 rfl (Nat.le_of_ble_eq_true rfl) dL_asks_61 ⟨by show C + 1 + 1 ≤ 2300; omega, by show S + 6 + 6 ≤ 12000; omega⟩ (fun r9 V H locs h9 hP hD hS => ?_)
  obtain ⟨rfl, hO⟩ := h9
  refine lv_istore (lv' := [(4, .int ((lq_keyAt q (nI j)))), (0, .ref at_), (1, .long (x)), (3, .int (nI j))]) hx hb dL_asks_64 hl (by decide) rfl (fun ls hl => ?_)
  refine lv_ldc2 (v := 31) hx hb hown (hts (.constantLong RL 185 (31)) (List.mem_of_getElem? (i := 1) rfl)) dL_asks_66 ?_
  refine lv_lload_n hx hb dL_asks_69 rfl (lv_at hl 2 rfl) ?_
  refine lv_lmul hx hb dL_asks_70 ?_
  refine lv_iload hx hb dL_asks_71 (lv_at hl 0 rfl) ?_
  refine lv_i2l hx hb dL_asks_73 rfl ?_
  refine lv_ladd hx hb dL_asks_74 ?_
  refine lv_lstore_n (lv' := [(1, .long ((((31 : Int64)) * (x)) + (((lq_keyAt q (nI j))).toInt64))), (4, .int ((lq_keyAt q (nI j)))), (0, .ref at_), (3, .int (nI j))]) hx hb dL_asks_75 rfl hl (by decide) rfl (fun ls hl => ?_)
  refine lv_iconst (v := 0) hx hb dL_asks_76 (by decide) ?_
  refine lv_istore (lv' := [(5, .int ((0 : Int32))), (1, .long ((((31 : Int64)) * (x)) + (((lq_keyAt q (nI j))).toInt64))), (4, .int ((lq_keyAt q (nI j)))), (0, .ref at_), (3, .int (nI j))]) hx hb dL_asks_77 hl (by decide) rfl (fun ls hl => ?_)
  exact k _ _ (by omega) (by omega) _ _ _ (trivial) hO H locs hP hD hS ls (lv_sub hl [3, 1, 4, 2, 0] rfl)
set_option maxHeartbeats 4000000 in
set_option maxRecDepth 100000 in
theorem as_2z {p : Program} {l : Launch} {e : Env} {s : State} {mi : MethodId} {args : Array Value} {below : List Frame} {meth : Method} {c : Code} {D : va_G} {y : Nat → ClassId} {A : Nat → Prop} {Q : State → Prop} {at_ : Nat} {q : Lad} {us : List Lad} {sv : Option Lad} {rs dt ix lf : Int32} {M : Nat} {tx : Nat → Int32} (hst : l.stackTraces = false) (C0 : mC p l c mi s args D y A cL_asks 6 wsL_asks) (x : Int64) (j n : Nat) (hn : q.1 = nI n) (hn24 : n ≤ 24) (hj : j = n) (cb sb : Nat) (hcb : cb + 40 ≤ 2200) (hsb : sb + 240 ≤ 11800) (k : mW p l e (rmx 14 460 2300 12000) s mi args below meth c D y A at_ q us sv rs dt ix lf M tx (anyT) [] Q 6 183 [(0, .ref at_), (1, .long (x))] (cb + 1) (sb + 6)) : mW p l e (rmx 14 460 2300 12000) s mi args below meth c D y A at_ q us sv rs dt ix lf M tx (anyT) [] Q 6 50 [(0, .ref at_), (1, .long (x)), (3, .int (nI j))] (cb) (sb) := by
  obtain ⟨hx, hb, hml, hown, hts, hK, hA, hZ, hN, hJ, -⟩ := C0
  intro C S hC hS9 V NN TT hPT hO H locs hP hD hS ls hl
  refine lv_iload_n hx hb dL_asks_50 rfl (lv_at hl 2 rfl) ?_
  refine lv_aload_n hx hb dL_asks_51 rfl (lv_at hl 0 rfl) ?_
  refine lv_iconst (v := 0) hx hb dL_asks_52 (by decide) ?_
  refine ow_Si (As := [.ref at_, .int ((0 : Int32))]) (rest := [.int (nI j)]) ⟨hx, hb, hml, hown, hts⟩ (oL_account l hst D y H.size at_ V ((0 : Int32)) hO) (vx_cwSW 2 hts gL_asks_L_account rfl rfl rfl (by decide +kernel) ⟨(Nat.le_of_ble_eq_true rfl), (Nat.le_of_ble_eq_true rfl)⟩) hK hP hD hS hA hZ hN hJ rfl hl.1 rfl (Nat.le_of_ble_eq_true rfl) dL_asks_53 ⟨by show C + 1 ≤ 2300; omega, by show S + 6 ≤ 12000; omega⟩ (fun r9 V H locs h9 hP hD hS => ?_)
  obtain ⟨rfl, hO⟩ := h9
  refine s1_is (z := nI n) (acc_0.trans hn) ?_
  refine lv_icmp_ge (tgt := 183) hx hb dL_asks_56 (by decide) (fun _ => ?_) (fun h9 => absurd ((nI_leI (a := n) (b := j) (by omega) (by omega)).mpr (by omega)) h9)
  exact k _ _ (by omega) (by omega) _ _ _ (trivial) hO H locs hP hD hS ls (lv_sub hl [0, 1] rfl)
set_option maxHeartbeats 4000000 in
set_option maxRecDepth 100000 in
theorem as_L2a {p : Program} {l : Launch} {e : Env} {s : State} {mi : MethodId} {args : Array Value} {below : List Frame} {meth : Method} {c : Code} {D : va_G} {y : Nat → ClassId} {A : Nat → Prop} {Q : State → Prop} {at_ : Nat} {q : Lad} {us : List Lad} {sv : Option Lad} {rs dt ix lf : Int32} {M : Nat} {tx : Nat → Int32} (hst : l.stackTraces = false) (C0 : mC p l c mi s args D y A cL_asks 6 wsL_asks) (x0 : Int64) (i : Nat) (key : Int32) (cb sb : Nat) (hcb : cb + 40 ≤ 2200) (hsb : sb + 240 ≤ 11800) (k : mW p l e (rmx 14 460 2300 12000) s mi args below meth c D y A at_ q us sv rs dt ix lf M tx (anyT) [] Q 6 107 [(0, .ref at_), (1, .long (lpL (ak2a q key) 4 x0)), (3, .int (nI i)), (4, .int (key))] (cb + 14) (sb + 84)) : ∀ d j : Nat, j + d = 4 → mW p l e (rmx 14 460 2300 12000) s mi args below meth c D y A at_ q us sv rs dt ix lf M tx (anyT) [] Q 6 79 [(0, .ref at_), (1, .long (lpL (ak2a q key) j x0)), (3, .int (nI i)), (4, .int (key)), (5, .int (nI j))] (cb + 2 + 3 * j) (sb + 12 + 18 * j) := by
  have C1 := C0
  obtain ⟨hx, hb, hml, hown, hts, hK, hA, hZ, hN, hJ, -⟩ := C0
  intro d
  induction d with
  | zero =>
    intro j hj
    obtain rfl : j = 4 := by omega
    intro C S hC hS9 V NN TT hPT hO H locs hP hD hS ls hl
    refine lv_iload hx hb dL_asks_79 (lv_at hl 4 rfl) ?_
    refine lv_iconst (v := 4) hx hb dL_asks_81 (by decide) ?_
    refine lv_icmp_ge (tgt := 107) hx hb dL_asks_82 (by decide) (fun _ => ?_) (fun h9 => absurd ((nI_leI (a := 4) (b := 4) (by omega) (by omega)).mpr (by omega)) h9)
    exact k _ _ (by omega) (by omega) _ _ _ (trivial) hO H locs hP hD hS ls (lv_sub hl [0, 1, 2, 3] rfl)
  | succ d ih =>
    intro j hj
    intro C S hC hS9 V NN TT hPT hO H locs hP hD hS ls hl
    refine lv_iload hx hb dL_asks_79 (lv_at hl 4 rfl) ?_
    refine lv_iconst (v := 4) hx hb dL_asks_81 (by decide) ?_
    refine lv_icmp_ge (tgt := 107) hx hb dL_asks_82 (by decide) (fun h9 => absurd h9 (fun z => by have := (nI_leI (a := 4) (b := j) (by omega) (by omega)).mp z; omega)) (fun _ => ?_)
    refine lv_ldc2 (v := 31) hx hb hown (hts (.constantLong RL 185 (31)) (List.mem_of_getElem? (i := 1) rfl)) dL_asks_85 ?_
    refine lv_lload_n hx hb dL_asks_88 rfl (lv_at hl 1 rfl) ?_
    refine lv_lmul hx hb dL_asks_89 ?_
    refine lv_aload_n hx hb dL_asks_90 rfl (lv_at hl 0 rfl) ?_
    refine lv_iload hx hb dL_asks_91 (lv_at hl 3 rfl) ?_
    refine lv_iload hx hb dL_asks_93 (lv_at hl 4 rfl) ?_
    refine ow_Si (As := [.ref at_, .int (key), .int (nI j)]) (rest := [.long (((31 : Int64)) * (lpL (ak2a q key) j x0))]) ⟨hx, hb, hml, hown, hts⟩ (oL_folderOf l hst D y H.size at_ V (key) (nI j) hO) (vx_cwSW 3 hts gL_asks_L_folderOf rfl rfl rfl (by decide +kernel) ⟨(Nat.le_of_ble_eq_true rfl), (Nat.le_of_ble_eq_true rfl)⟩) hK hP hD hS hA hZ hN hJ rfl hl.1 rfl (Nat.le_of_ble_eq_true rfl) dL_asks_95 ⟨by show C + 3 ≤ 2300; omega, by show S + 18 ≤ 12000; omega⟩ (fun r9 V H locs h9 hP hD hS => ?_)
    obtain ⟨rfl, hO⟩ := h9
    refine lv_i2l hx hb dL_asks_98 rfl ?_
    refine lv_ladd hx hb dL_asks_99 ?_
    refine lv_lstore_n (lv' := [(1, .long ((((31 : Int64)) * (lpL (ak2a q key) j x0)) + (((lq_folderOf q (key) (nI j))).toInt64))), (0, .ref at_), (3, .int (nI i)), (4, .int (key)), (5, .int (nI j))]) hx hb dL_asks_100 rfl hl (by decide) rfl (fun ls hl => ?_)
    refine lv_iinc (v := nI (j + 1)) (lv' := [(5, .int (nI (j + 1))), (1, .long ((((31 : Int64)) * (lpL (ak2a q key) j x0)) + (((lq_folderOf q (key) (nI j))).toInt64))), (0, .ref at_), (3, .int (nI i)), (4, .int (key))]) hx hb dL_asks_101 hl (k := 4) rfl (nI_1 j) (by decide) rfl (fun ls hl => ?_)
    refine lv_goto (tgt := 79) hx hb dL_asks_104 (by decide) ?_
    exact (ih (j + 1) (by omega)) _ _ (by omega) (by omega) _ _ _ (trivial) hO H locs hP hD hS ls (lv_sub hl [2, 1, 3, 4, 0] rfl)
set_option maxHeartbeats 4000000 in
set_option maxRecDepth 100000 in
theorem as_2b {p : Program} {l : Launch} {e : Env} {s : State} {mi : MethodId} {args : Array Value} {below : List Frame} {meth : Method} {c : Code} {D : va_G} {y : Nat → ClassId} {A : Nat → Prop} {Q : State → Prop} {at_ : Nat} {q : Lad} {us : List Lad} {sv : Option Lad} {rs dt ix lf : Int32} {M : Nat} {tx : Nat → Int32} (hst : l.stackTraces = false) (C0 : mC p l c mi s args D y A cL_asks 6 wsL_asks) (x : Int64) (i : Nat) (key : Int32) (cb sb : Nat) (hcb : cb + 40 ≤ 2200) (hsb : sb + 240 ≤ 11800) (k : mW p l e (rmx 14 460 2300 12000) s mi args below meth c D y A at_ q us sv rs dt ix lf M tx (anyT) [] Q 6 149 [(0, .ref at_), (1, .long (ak2m q key x)), (3, .int (nI i)), (4, .int (key)), (5, .int (nI 0))] (cb + 18) (sb + 108)) : mW p l e (rmx 14 460 2300 12000) s mi args below meth c D y A at_ q us sv rs dt ix lf M tx (anyT) [] Q 6 107 [(0, .ref at_), (1, .long (x)), (3, .int (nI i)), (4, .int (key))] (cb + 14) (sb + 84) := by
  obtain ⟨hx, hb, hml, hown, hts, hK, hA, hZ, hN, hJ, -⟩ := C0
  intro C S hC hS9 V NN TT hPT hO H locs hP hD hS ls hl
  refine lv_ldc2 (v := 31) hx hb hown (hts (.constantLong RL 185 (31)) (List.mem_of_getElem? (i := 1) rfl)) dL_asks_107 ?_
  refine lv_ldc2 (v := 31) hx hb hown (hts (.constantLong RL 185 (31)) (List.mem_of_getElem? (i := 1) rfl)) dL_asks_110 ?_
  refine lv_ldc2 (v := 31) hx hb hown (hts (.constantLong RL 185 (31)) (List.mem_of_getElem? (i := 1) rfl)) dL_asks_113 ?_
  refine lv_lload_n hx hb dL_asks_116 rfl (lv_at hl 1 rfl) ?_
  refine lv_lmul hx hb dL_asks_117 ?_
  refine lv_aload_n hx hb dL_asks_118 rfl (lv_at hl 0 rfl) ?_
  refine lv_iload hx hb dL_asks_119 (lv_at hl 3 rfl) ?_
  refine ow_Si (As := [.ref at_, .int (key)]) (rest := [.long (((31 : Int64)) * (x)), .long ((31 : Int64)), .long ((31 : Int64))]) ⟨hx, hb, hml, hown, hts⟩ (oL_stepsAgain l hst D y H.size at_ V (key) hO) (vx_cwSW 2 hts gL_asks_L_stepsAgain rfl rfl rfl (by decide +kernel) ⟨(Nat.le_of_ble_eq_true rfl), (Nat.le_of_ble_eq_true rfl)⟩) hK hP hD hS hA hZ hN hJ rfl hl.1 rfl (Nat.le_of_ble_eq_true rfl) dL_asks_121 ⟨by show C + 1 ≤ 2300; omega, by show S + 6 ≤ 12000; omega⟩ (fun r9 V H locs h9 hP hD hS => ?_)
  obtain ⟨rfl, hO⟩ := h9
  refine lv_i2l hx hb dL_asks_124 rfl ?_
  refine lv_ladd hx hb dL_asks_125 ?_
  refine lv_lmul hx hb dL_asks_126 ?_
  refine lv_aload_n hx hb dL_asks_127 rfl (lv_at hl 0 rfl) ?_
  refine lv_iload hx hb dL_asks_128 (lv_at hl 3 rfl) ?_
  refine ow_Si (As := [.ref at_, .int (key)]) (rest := [.long (((31 : Int64)) * ((((31 : Int64)) * (x)) + (((lq_stepsAgain q (key))).toInt64))), .long ((31 : Int64))]) ⟨hx, hb, hml, hown, hts⟩ (oL_falls l hst D y H.size at_ V (key) hO) (vx_cwSW 2 hts gL_asks_L_falls rfl rfl rfl (by decide +kernel) ⟨(Nat.le_of_ble_eq_true rfl), (Nat.le_of_ble_eq_true rfl)⟩) hK hP hD hS hA hZ hN hJ rfl hl.1 rfl (Nat.le_of_ble_eq_true rfl) dL_asks_130 ⟨by show C + 1 + 1 ≤ 2300; omega, by show S + 6 + 6 ≤ 12000; omega⟩ (fun r9 V H locs h9 hP hD hS => ?_)
  obtain ⟨rfl, hO⟩ := h9
  refine lv_i2l hx hb dL_asks_133 rfl ?_
  refine lv_ladd hx hb dL_asks_134 ?_
  refine lv_lmul hx hb dL_asks_135 ?_
  refine lv_aload_n hx hb dL_asks_136 rfl (lv_at hl 0 rfl) ?_
  refine lv_iload hx hb dL_asks_137 (lv_at hl 3 rfl) ?_
  refine lv_iconst (v := 1) hx hb dL_asks_139 (by decide) ?_
  refine ow_Si (As := [.ref at_, .int (key), .int ((1 : Int32))]) (rest := [.long (((31 : Int64)) * ((((31 : Int64)) * ((((31 : Int64)) * (x)) + (((lq_stepsAgain q (key))).toInt64))) + (((lq_falls q (key))).toInt64)))]) ⟨hx, hb, hml, hown, hts⟩ (oL_placeOf l hst D y H.size at_ V (key) ((1 : Int32)) hO) (vx_cwSW 3 hts gL_asks_L_placeOf rfl rfl rfl (by decide +kernel) ⟨(Nat.le_of_ble_eq_true rfl), (Nat.le_of_ble_eq_true rfl)⟩) hK hP hD hS hA hZ hN hJ rfl hl.1 rfl (Nat.le_of_ble_eq_true rfl) dL_asks_140 ⟨by show C + 1 + 1 + 2 ≤ 2300; omega, by show S + 6 + 6 + 12 ≤ 12000; omega⟩ (fun r9 V H locs h9 hP hD hS => ?_)
  obtain ⟨rfl, hO⟩ := h9
  refine lv_i2l hx hb dL_asks_143 rfl ?_
  refine lv_ladd hx hb dL_asks_144 ?_
  refine lv_lstore_n (lv' := [(1, .long ((((31 : Int64)) * ((((31 : Int64)) * ((((31 : Int64)) * (x)) + (((lq_stepsAgain q (key))).toInt64))) + (((lq_falls q (key))).toInt64))) + (((lq_placeOf q (key) ((1 : Int32)))).toInt64))), (0, .ref at_), (3, .int (nI i)), (4, .int (key))]) hx hb dL_asks_145 rfl hl (by decide) rfl (fun ls hl => ?_)
  refine lv_iconst (v := 0) hx hb dL_asks_146 (by decide) ?_
  refine lv_istore (lv' := [(5, .int ((0 : Int32))), (1, .long ((((31 : Int64)) * ((((31 : Int64)) * ((((31 : Int64)) * (x)) + (((lq_stepsAgain q (key))).toInt64))) + (((lq_falls q (key))).toInt64))) + (((lq_placeOf q (key) ((1 : Int32)))).toInt64))), (0, .ref at_), (3, .int (nI i)), (4, .int (key))]) hx hb dL_asks_147 hl (by decide) rfl (fun ls hl => ?_)
  exact k _ _ (by omega) (by omega) _ _ _ (trivial) hO H locs hP hD hS ls (lv_sub hl [2, 1, 3, 4, 0] rfl)
set_option maxHeartbeats 4000000 in
set_option maxRecDepth 100000 in
theorem as_L2b {p : Program} {l : Launch} {e : Env} {s : State} {mi : MethodId} {args : Array Value} {below : List Frame} {meth : Method} {c : Code} {D : va_G} {y : Nat → ClassId} {A : Nat → Prop} {Q : State → Prop} {at_ : Nat} {q : Lad} {us : List Lad} {sv : Option Lad} {rs dt ix lf : Int32} {M : Nat} {tx : Nat → Int32} (hst : l.stackTraces = false) (C0 : mC p l c mi s args D y A cL_asks 6 wsL_asks) (x0 : Int64) (i : Nat) (key : Int32) (cb sb : Nat) (hcb : cb + 40 ≤ 2200) (hsb : sb + 240 ≤ 11800) (k : mW p l e (rmx 14 460 2300 12000) s mi args below meth c D y A at_ q us sv rs dt ix lf M tx (anyT) [] Q 6 177 [(0, .ref at_), (1, .long (lpL (ak2b q key) 5 x0)), (3, .int (nI i))] (cb + 38) (sb + 228)) : ∀ d j : Nat, j + d = 5 → mW p l e (rmx 14 460 2300 12000) s mi args below meth c D y A at_ q us sv rs dt ix lf M tx (anyT) [] Q 6 149 [(0, .ref at_), (1, .long (lpL (ak2b q key) j x0)), (3, .int (nI i)), (4, .int (key)), (5, .int (nI j))] (cb + 18 + 4 * j) (sb + 108 + 24 * j) := by
  have C1 := C0
  obtain ⟨hx, hb, hml, hown, hts, hK, hA, hZ, hN, hJ, -⟩ := C0
  intro d
  induction d with
  | zero =>
    intro j hj
    obtain rfl : j = 5 := by omega
    intro C S hC hS9 V NN TT hPT hO H locs hP hD hS ls hl
    refine lv_iload hx hb dL_asks_149 (lv_at hl 4 rfl) ?_
    refine lv_iconst (v := 5) hx hb dL_asks_151 (by decide) ?_
    refine lv_icmp_ge (tgt := 177) hx hb dL_asks_152 (by decide) (fun _ => ?_) (fun h9 => absurd ((nI_leI (a := 5) (b := 5) (by omega) (by omega)).mpr (by omega)) h9)
    exact k _ _ (by omega) (by omega) _ _ _ (trivial) hO H locs hP hD hS ls (lv_sub hl [0, 1, 2] rfl)
  | succ d ih =>
    intro j hj
    intro C S hC hS9 V NN TT hPT hO H locs hP hD hS ls hl
    refine lv_iload hx hb dL_asks_149 (lv_at hl 4 rfl) ?_
    refine lv_iconst (v := 5) hx hb dL_asks_151 (by decide) ?_
    refine lv_icmp_ge (tgt := 177) hx hb dL_asks_152 (by decide) (fun h9 => absurd h9 (fun z => by have := (nI_leI (a := 5) (b := j) (by omega) (by omega)).mp z; omega)) (fun _ => ?_)
    refine lv_ldc2 (v := 31) hx hb hown (hts (.constantLong RL 185 (31)) (List.mem_of_getElem? (i := 1) rfl)) dL_asks_155 ?_
    refine lv_lload_n hx hb dL_asks_158 rfl (lv_at hl 1 rfl) ?_
    refine lv_lmul hx hb dL_asks_159 ?_
    refine lv_aload_n hx hb dL_asks_160 rfl (lv_at hl 0 rfl) ?_
    refine lv_iload hx hb dL_asks_161 (lv_at hl 3 rfl) ?_
    refine lv_iload hx hb dL_asks_163 (lv_at hl 4 rfl) ?_
    refine ow_Si (As := [.ref at_, .int (key), .int (nI j)]) (rest := [.long (((31 : Int64)) * (lpL (ak2b q key) j x0))]) ⟨hx, hb, hml, hown, hts⟩ (oL_span l hst D y H.size at_ V (key) (nI j) hO) (vx_cwSW 3 hts gL_asks_L_span rfl rfl rfl (by decide +kernel) ⟨(Nat.le_of_ble_eq_true rfl), (Nat.le_of_ble_eq_true rfl)⟩) hK hP hD hS hA hZ hN hJ rfl hl.1 rfl (Nat.le_of_ble_eq_true rfl) dL_asks_165 ⟨by show C + 4 ≤ 2300; omega, by show S + 24 ≤ 12000; omega⟩ (fun r9 V H locs h9 hP hD hS => ?_)
    obtain ⟨rfl, hO⟩ := h9
    refine lv_i2l hx hb dL_asks_168 rfl ?_
    refine lv_ladd hx hb dL_asks_169 ?_
    refine lv_lstore_n (lv' := [(1, .long ((((31 : Int64)) * (lpL (ak2b q key) j x0)) + (((lq_span q (key) (nI j))).toInt64))), (0, .ref at_), (3, .int (nI i)), (4, .int (key)), (5, .int (nI j))]) hx hb dL_asks_170 rfl hl (by decide) rfl (fun ls hl => ?_)
    refine lv_iinc (v := nI (j + 1)) (lv' := [(5, .int (nI (j + 1))), (1, .long ((((31 : Int64)) * (lpL (ak2b q key) j x0)) + (((lq_span q (key) (nI j))).toInt64))), (0, .ref at_), (3, .int (nI i)), (4, .int (key))]) hx hb dL_asks_171 hl (k := 4) rfl (nI_1 j) (by decide) rfl (fun ls hl => ?_)
    refine lv_goto (tgt := 149) hx hb dL_asks_174 (by decide) ?_
    exact (ih (j + 1) (by omega)) _ _ (by omega) (by omega) _ _ _ (trivial) hO H locs hP hD hS ls (lv_sub hl [2, 1, 3, 4, 0] rfl)
set_option maxHeartbeats 4000000 in
set_option maxRecDepth 100000 in
theorem as_2c {p : Program} {l : Launch} {e : Env} {s : State} {mi : MethodId} {args : Array Value} {below : List Frame} {meth : Method} {c : Code} {D : va_G} {y : Nat → ClassId} {A : Nat → Prop} {Q : State → Prop} {at_ : Nat} {q : Lad} {us : List Lad} {sv : Option Lad} {rs dt ix lf : Int32} {M : Nat} {tx : Nat → Int32} (hst : l.stackTraces = false) (C0 : mC p l c mi s args D y A cL_asks 6 wsL_asks) (x : Int64) (i : Nat) (cb sb : Nat) (hcb : cb + 40 ≤ 2200) (hsb : sb + 240 ≤ 11800) (k : mW p l e (rmx 14 460 2300 12000) s mi args below meth c D y A at_ q us sv rs dt ix lf M tx (anyT) [] Q 6 50 [(0, .ref at_), (1, .long (x)), (3, .int (nI (i + 1)))] (cb + 38) (sb + 228)) : mW p l e (rmx 14 460 2300 12000) s mi args below meth c D y A at_ q us sv rs dt ix lf M tx (anyT) [] Q 6 177 [(0, .ref at_), (1, .long (x)), (3, .int (nI i))] (cb + 38) (sb + 228) := by
  obtain ⟨hx, hb, hml, hown, hts, hK, hA, hZ, hN, hJ, -⟩ := C0
  intro C S hC hS9 V NN TT hPT hO H locs hP hD hS ls hl
  refine lv_iinc (v := nI (i + 1)) (lv' := [(3, .int (nI (i + 1))), (0, .ref at_), (1, .long (x))]) hx hb dL_asks_177 hl (k := 2) rfl (nI_1 i) (by decide) rfl (fun ls hl => ?_)
  refine lv_goto (tgt := 50) hx hb dL_asks_180 (by decide) ?_
  exact k _ _ (by omega) (by omega) _ _ _ (trivial) hO H locs hP hD hS ls (lv_sub hl [1, 2, 0] rfl)
theorem as_L2 {p : Program} {l : Launch} {e : Env} {s : State} {mi : MethodId} {args : Array Value} {below : List Frame} {meth : Method} {c : Code} {D : va_G} {y : Nat → ClassId} {A : Nat → Prop} {Q : State → Prop} {at_ : Nat} {q : Lad} {us : List Lad} {sv : Option Lad} {rs dt ix lf : Int32} {M : Nat} {tx : Nat → Int32} (hst : l.stackTraces = false) (C0 : mC p l c mi s args D y A cL_asks 6 wsL_asks) (x0 : Int64) (n : Nat) (hn : q.1 = nI n) (hn24 : n ≤ 24) (k : mW p l e (rmx 14 460 2300 12000) s mi args below meth c D y A at_ q us sv rs dt ix lf M tx (anyT) [] Q 6 183 [(0, .ref at_), (1, .long (lpL (ak2 q) n x0))] (10 + 38 * n + 1) (60 + 228 * n + 6)) : ∀ d j : Nat, j + d = n → mW p l e (rmx 14 460 2300 12000) s mi args below meth c D y A at_ q us sv rs dt ix lf M tx (anyT) [] Q 6 50 [(0, .ref at_), (1, .long (lpL (ak2 q) j x0)), (3, .int (nI j))] (10 + 38 * j) (60 + 228 * j) := by
  intro d
  induction d with
  | zero =>
    intro j hj
    obtain rfl : j = n := by omega
    exact as_2z hst C0 _ j j hn hn24 rfl _ _ (by omega) (by omega) k
  | succ d ih =>
    intro j hj
    have h := ih (j + 1) (by omega)
    rw [show 10 + 38 * (j + 1) = 10 + 38 * j + 38 by omega, show 60 + 228 * (j + 1) = 60 + 228 * j + 228 by omega] at h
    have e : lpL (ak2 q) (j + 1) x0 = lpL (ak2b q (lq_keyAt q (nI j))) 5 (ak2m q (lq_keyAt q (nI j)) (lpL (ak2a q (lq_keyAt q (nI j))) 4 (31 * lpL (ak2 q) j x0 + ((lq_keyAt q (nI j))).toInt64))) := (lpL_s _ _ _).trans (ak2_e _ _ _)
    rw [e] at h
    exact as_2a hst C0 (lpL (ak2 q) j x0) j n hn hn24 (by omega) _ _ (by omega) (by omega) (as_L2a hst C0 (31 * lpL (ak2 q) j x0 + ((lq_keyAt q (nI j))).toInt64) j (lq_keyAt q (nI j)) _ _ (by omega) (by omega) (as_2b hst C0 (lpL (ak2a q (lq_keyAt q (nI j))) 4 (31 * lpL (ak2 q) j x0 + ((lq_keyAt q (nI j))).toInt64)) j (lq_keyAt q (nI j)) _ _ (by omega) (by omega) (as_L2b hst C0 (ak2m q (lq_keyAt q (nI j)) (lpL (ak2a q (lq_keyAt q (nI j))) 4 (31 * lpL (ak2 q) j x0 + ((lq_keyAt q (nI j))).toInt64))) j (lq_keyAt q (nI j)) _ _ (by omega) (by omega) (as_2c hst C0 (lpL (ak2b q (lq_keyAt q (nI j))) 5 (ak2m q (lq_keyAt q (nI j)) (lpL (ak2a q (lq_keyAt q (nI j))) 4 (31 * lpL (ak2 q) j x0 + ((lq_keyAt q (nI j))).toInt64)))) j _ _ (by omega) (by omega) h) 5 0 rfl)) 4 0 rfl)
set_option maxHeartbeats 4000000 in
set_option maxRecDepth 100000 in
theorem as_3 {p : Program} {l : Launch} {e : Env} {s : State} {mi : MethodId} {args : Array Value} {below : List Frame} {meth : Method} {c : Code} {D : va_G} {y : Nat → ClassId} {A : Nat → Prop} {Q : State → Prop} {at_ : Nat} {q : Lad} {us : List Lad} {sv : Option Lad} {rs dt ix lf : Int32} {M : Nat} {tx : Nat → Int32} (hst : l.stackTraces = false) (C0 : mC p l c mi s args D y A cL_asks 6 wsL_asks) (x : Int64) (cb sb : Nat) (k : mW p l e (rmx 14 460 2300 12000) s mi args below meth c D y A at_ q us sv rs dt ix lf M tx (anyT) [] Q 6 185 [(0, .ref at_), (1, .long (x)), (3, .int (nI 0))] (cb) (sb)) : mW p l e (rmx 14 460 2300 12000) s mi args below meth c D y A at_ q us sv rs dt ix lf M tx (anyT) [] Q 6 183 [(0, .ref at_), (1, .long (x))] (cb) (sb) := by
  obtain ⟨hx, hb, hml, hown, hts, hK, hA, hZ, hN, hJ, -⟩ := C0
  intro C S hC hS9 V NN TT hPT hO H locs hP hD hS ls hl
  refine lv_iconst (v := 0) hx hb dL_asks_183 (by decide) ?_
  refine lv_istore_n (lv' := [(3, .int ((0 : Int32))), (0, .ref at_), (1, .long (x))]) hx hb dL_asks_184 rfl hl (by decide) rfl (fun ls hl => ?_)
  exact k _ _ (by omega) (by omega) _ _ _ (trivial) hO H locs hP hD hS ls (lv_sub hl [1, 2, 0] rfl)
set_option maxHeartbeats 4000000 in
set_option maxRecDepth 100000 in
theorem as_3a {p : Program} {l : Launch} {e : Env} {s : State} {mi : MethodId} {args : Array Value} {below : List Frame} {meth : Method} {c : Code} {D : va_G} {y : Nat → ClassId} {A : Nat → Prop} {Q : State → Prop} {at_ : Nat} {q : Lad} {us : List Lad} {sv : Option Lad} {rs dt ix lf : Int32} {M : Nat} {tx : Nat → Int32} (hst : l.stackTraces = false) (C0 : mC p l c mi s args D y A cL_asks 6 wsL_asks) (x : Int64) (i : Nat) (hi : i < 5) (cb sb : Nat) (hcb : cb + 222 ≤ 2280) (hsb : sb + 1062 ≤ 11900) (k : mW p l e (rmx 14 460 2300 12000) s mi args below meth c D y A at_ q us sv rs dt ix lf M tx (fun NN TT => NN = (lnq q (nI i)).2 ∧ TT = (lnq q (nI i)).1) [] Q 6 235 [(0, .ref at_), (1, .long (ak3m q i x)), (3, .int (nI i)), (4, .int (nI (lnq q (nI i)).2)), (5, .int (nI 0))] (cb + 123) (sb + 468)) : mW p l e (rmx 14 460 2300 12000) s mi args below meth c D y A at_ q us sv rs dt ix lf M tx (anyT) [] Q 6 185 [(0, .ref at_), (1, .long (x)), (3, .int (nI i))] (cb) (sb) := by
  obtain ⟨hx, hb, hml, hown, hts, hK, hA, hZ, hN, hJ, -⟩ := C0
  intro C S hC hS9 V NN TT hPT hO H locs hP hD hS ls hl
  refine lv_iload_n hx hb dL_asks_185 rfl (lv_at hl 2 rfl) ?_
  refine lv_iconst (v := 5) hx hb dL_asks_186 (by decide) ?_
  refine lv_icmp_ge (tgt := 268) hx hb dL_asks_187 (by decide) (fun h9 => absurd h9 (fun z => by have := (nI_leI (a := 5) (b := i) (by omega) (by omega)).mp z; omega)) (fun _ => ?_)
  refine lv_ldc2 (v := 31) hx hb hown (hts (.constantLong RL 185 (31)) (List.mem_of_getElem? (i := 1) rfl)) dL_asks_190 ?_
  refine lv_ldc2 (v := 31) hx hb hown (hts (.constantLong RL 185 (31)) (List.mem_of_getElem? (i := 1) rfl)) dL_asks_193 ?_
  refine lv_ldc2 (v := 31) hx hb hown (hts (.constantLong RL 185 (31)) (List.mem_of_getElem? (i := 1) rfl)) dL_asks_196 ?_
  refine lv_lload_n hx hb dL_asks_199 rfl (lv_at hl 1 rfl) ?_
  refine lv_lmul hx hb dL_asks_200 ?_
  refine lv_aload_n hx hb dL_asks_201 rfl (lv_at hl 0 rfl) ?_
  refine lv_iload_n hx hb dL_asks_202 rfl (lv_at hl 2 rfl) ?_
  refine ow_Si (As := [.ref at_, .int (nI i)]) (rest := [.long (((31 : Int64)) * (x)), .long ((31 : Int64)), .long ((31 : Int64))]) ⟨hx, hb, hml, hown, hts⟩ (oL_levelSize l hst D y H.size at_ V (nI i) hO) (vx_cwSW 2 hts gL_asks_L_levelSize rfl rfl rfl (by decide +kernel) ⟨(Nat.le_of_ble_eq_true rfl), (Nat.le_of_ble_eq_true rfl)⟩) hK hP hD hS hA hZ hN hJ rfl hl.1 rfl (Nat.le_of_ble_eq_true rfl) dL_asks_203 ⟨by show C + 1 ≤ 2300; omega, by show S + 6 ≤ 12000; omega⟩ (fun r9 V H locs h9 hP hD hS => ?_)
  obtain ⟨rfl, hO⟩ := h9
  refine lv_i2l hx hb dL_asks_206 rfl ?_
  refine lv_ladd hx hb dL_asks_207 ?_
  refine lv_lmul hx hb dL_asks_208 ?_
  refine lv_aload_n hx hb dL_asks_209 rfl (lv_at hl 0 rfl) ?_
  refine lv_iload_n hx hb dL_asks_210 rfl (lv_at hl 2 rfl) ?_
  refine ow_Si (As := [.ref at_, .int (nI i)]) (rest := [.long (((31 : Int64)) * ((((31 : Int64)) * (x)) + (((lq_levelSize q (nI i))).toInt64))), .long ((31 : Int64))]) ⟨hx, hb, hml, hown, hts⟩ (oL_headSpan l hst D y H.size at_ V (nI i) hO) (vx_cwSW 2 hts gL_asks_L_headSpan rfl rfl rfl (by decide +kernel) ⟨(Nat.le_of_ble_eq_true rfl), (Nat.le_of_ble_eq_true rfl)⟩) hK hP hD hS hA hZ hN hJ rfl hl.1 rfl (Nat.le_of_ble_eq_true rfl) dL_asks_211 ⟨by show C + 1 + 1 ≤ 2300; omega, by show S + 6 + 6 ≤ 12000; omega⟩ (fun r9 V H locs h9 hP hD hS => ?_)
  obtain ⟨rfl, hO⟩ := h9
  refine lv_i2l hx hb dL_asks_214 rfl ?_
  refine lv_ladd hx hb dL_asks_215 ?_
  refine lv_lmul hx hb dL_asks_216 ?_
  refine lv_aload_n hx hb dL_asks_217 rfl (lv_at hl 0 rfl) ?_
  refine lv_iload_n hx hb dL_asks_218 rfl (lv_at hl 2 rfl) ?_
  refine ow_Si (As := [.ref at_, .int (nI i)]) (rest := [.long (((31 : Int64)) * ((((31 : Int64)) * ((((31 : Int64)) * (x)) + (((lq_levelSize q (nI i))).toInt64))) + (((lq_headSpan q (nI i))).toInt64)))]) ⟨hx, hb, hml, hown, hts⟩ (oL_forgotten l hst D y H.size at_ V (nI i) hO) (vx_cwSW 2 hts gL_asks_L_forgotten rfl rfl rfl (by decide +kernel) ⟨(Nat.le_of_ble_eq_true rfl), (Nat.le_of_ble_eq_true rfl)⟩) hK hP hD hS hA hZ hN hJ rfl hl.1 rfl (Nat.le_of_ble_eq_true rfl) dL_asks_219 ⟨by show C + 1 + 1 + 1 ≤ 2300; omega, by show S + 6 + 6 + 6 ≤ 12000; omega⟩ (fun r9 V H locs h9 hP hD hS => ?_)
  obtain ⟨rfl, hO⟩ := h9
  refine lv_i2l hx hb dL_asks_222 rfl ?_
  refine lv_ladd hx hb dL_asks_223 ?_
  refine lv_lstore_n (lv' := [(1, .long ((((31 : Int64)) * ((((31 : Int64)) * ((((31 : Int64)) * (x)) + (((lq_levelSize q (nI i))).toInt64))) + (((lq_headSpan q (nI i))).toInt64))) + (((lq_isForgotten q (nI i))).toInt64))), (0, .ref at_), (3, .int (nI i))]) hx hb dL_asks_224 rfl hl (by decide) rfl (fun ls hl => ?_)
  refine lv_aload_n hx hb dL_asks_225 rfl (lv_at hl 1 rfl) ?_
  refine lv_iload_n hx hb dL_asks_226 rfl (lv_at hl 2 rfl) ?_
  refine ow_Si (As := [.ref at_, .int (nI i)]) (rest := []) ⟨hx, hb, hml, hown, hts⟩ (oL_line l hst D y H.size at_ V (nI i) hO) (vx_cwSW 2 hts gL_asks_L_line rfl rfl rfl (by decide +kernel) ⟨(Nat.le_of_ble_eq_true rfl), (Nat.le_of_ble_eq_true rfl)⟩) hK hP hD hS hA hZ hN hJ rfl hl.1 rfl (Nat.le_of_ble_eq_true rfl) dL_asks_227 ⟨by show C + 1 + 1 + 1 + 120 ≤ 2300; omega, by show S + 6 + 6 + 6 + 450 ≤ 12000; omega⟩ (fun r9 V H locs h9 hP hD hS => ?_)
  obtain ⟨-, rfl, hO⟩ := h9.resolve_right (fun z => z.1 (dLv5 i hi))
  refine lv_istore (lv' := [(4, .int (nI (lnq q (nI i)).2)), (1, .long ((((31 : Int64)) * ((((31 : Int64)) * ((((31 : Int64)) * (x)) + (((lq_levelSize q (nI i))).toInt64))) + (((lq_headSpan q (nI i))).toInt64))) + (((lq_isForgotten q (nI i))).toInt64))), (0, .ref at_), (3, .int (nI i))]) hx hb dL_asks_230 hl (by decide) rfl (fun ls hl => ?_)
  refine lv_iconst (v := 0) hx hb dL_asks_232 (by decide) ?_
  refine lv_istore (lv' := [(5, .int ((0 : Int32))), (4, .int (nI (lnq q (nI i)).2)), (1, .long ((((31 : Int64)) * ((((31 : Int64)) * ((((31 : Int64)) * (x)) + (((lq_levelSize q (nI i))).toInt64))) + (((lq_headSpan q (nI i))).toInt64))) + (((lq_isForgotten q (nI i))).toInt64))), (0, .ref at_), (3, .int (nI i))]) hx hb dL_asks_233 hl (by decide) rfl (fun ls hl => ?_)
  exact k _ _ (by omega) (by omega) _ _ _ (⟨rfl, rfl⟩) hO H locs hP hD hS ls (lv_sub hl [3, 2, 4, 1, 0] rfl)
set_option maxHeartbeats 4000000 in
set_option maxRecDepth 100000 in
theorem as_3z {p : Program} {l : Launch} {e : Env} {s : State} {mi : MethodId} {args : Array Value} {below : List Frame} {meth : Method} {c : Code} {D : va_G} {y : Nat → ClassId} {A : Nat → Prop} {Q : State → Prop} {at_ : Nat} {q : Lad} {us : List Lad} {sv : Option Lad} {rs dt ix lf : Int32} {M : Nat} {tx : Nat → Int32} (hst : l.stackTraces = false) (C0 : mC p l c mi s args D y A cL_asks 6 wsL_asks) (x : Int64) (i : Nat) (hi : i = 5) (cb sb : Nat) (hcb : cb + 0 ≤ 2280) (hsb : sb + 0 ≤ 11900) (k : mW p l e (rmx 14 460 2300 12000) s mi args below meth c D y A at_ q us sv rs dt ix lf M tx (anyT) [] Q 6 268 [(0, .ref at_), (1, .long (x))] (cb) (sb)) : mW p l e (rmx 14 460 2300 12000) s mi args below meth c D y A at_ q us sv rs dt ix lf M tx (anyT) [] Q 6 185 [(0, .ref at_), (1, .long (x)), (3, .int (nI i))] (cb) (sb) := by
  obtain ⟨hx, hb, hml, hown, hts, hK, hA, hZ, hN, hJ, -⟩ := C0
  intro C S hC hS9 V NN TT hPT hO H locs hP hD hS ls hl
  refine lv_iload_n hx hb dL_asks_185 rfl (lv_at hl 2 rfl) ?_
  refine lv_iconst (v := 5) hx hb dL_asks_186 (by decide) ?_
  refine lv_icmp_ge (tgt := 268) hx hb dL_asks_187 (by decide) (fun _ => ?_) (fun h9 => absurd ((nI_leI (a := 5) (b := i) (by omega) (by omega)).mpr (by omega)) h9)
  exact k _ _ (by omega) (by omega) _ _ _ (trivial) hO H locs hP hD hS ls (lv_sub hl [0, 1] rfl)
set_option maxHeartbeats 4000000 in
set_option maxRecDepth 100000 in
theorem as_L3 {p : Program} {l : Launch} {e : Env} {s : State} {mi : MethodId} {args : Array Value} {below : List Frame} {meth : Method} {c : Code} {D : va_G} {y : Nat → ClassId} {A : Nat → Prop} {Q : State → Prop} {at_ : Nat} {q : Lad} {us : List Lad} {sv : Option Lad} {rs dt ix lf : Int32} {M : Nat} {tx : Nat → Int32} (hst : l.stackTraces = false) (C0 : mC p l c mi s args D y A cL_asks 6 wsL_asks) (x0 : Int64) (i : Nat) (hi : i < 5) (h99 : (lnq q (nI i)).2 ≤ 99) (cb sb : Nat) (hcb : cb + 222 ≤ 2280) (hsb : sb + 1062 ≤ 11900) (k : mW p l e (rmx 14 460 2300 12000) s mi args below meth c D y A at_ q us sv rs dt ix lf M tx (anyT) [] Q 6 262 [(0, .ref at_), (1, .long (lpL (ak3c q i) (lnq q (nI i)).2 x0)), (3, .int (nI i))] (cb + 222) (sb + 1062)) : ∀ d j : Nat, j + d = (lnq q (nI i)).2 → mW p l e (rmx 14 460 2300 12000) s mi args below meth c D y A at_ q us sv rs dt ix lf M tx (fun NN TT => NN = (lnq q (nI i)).2 ∧ TT = (lnq q (nI i)).1) [] Q 6 235 [(0, .ref at_), (1, .long (lpL (ak3c q i) j x0)), (3, .int (nI i)), (4, .int (nI (lnq q (nI i)).2)), (5, .int (nI j))] (cb + 123 + j) (sb + 468 + 6 * j) := by
  have C1 := C0
  obtain ⟨hx, hb, hml, hown, hts, hK, hA, hZ, hN, hJ, -⟩ := C0
  intro d
  induction d with
  | zero =>
    intro j hj
    obtain rfl : j = (lnq q (nI i)).2 := by omega
    intro C S hC hS9 V NN TT hPT hO H locs hP hD hS ls hl
    refine lv_iload hx hb dL_asks_235 (lv_at hl 4 rfl) ?_
    refine lv_iload hx hb dL_asks_237 (lv_at hl 3 rfl) ?_
    refine lv_icmp_ge (tgt := 262) hx hb dL_asks_239 (by decide) (fun _ => ?_) (fun h9 => absurd ((nI_leI (a := (lnq q (nI i)).2) (b := ((lnq q (nI i)).2)) (by omega) (by omega)).mpr (by omega)) h9)
    exact k _ _ (by omega) (by omega) _ _ _ (trivial) hO H locs hP hD hS ls (lv_sub hl [0, 1, 2] rfl)
  | succ d ih =>
    intro j hj
    intro C S hC hS9 V NN TT hPT hO H locs hP hD hS ls hl
    refine lv_iload hx hb dL_asks_235 (lv_at hl 4 rfl) ?_
    refine lv_iload hx hb dL_asks_237 (lv_at hl 3 rfl) ?_
    refine lv_icmp_ge (tgt := 262) hx hb dL_asks_239 (by decide) (fun h9 => absurd h9 (fun z => by have := (nI_leI (a := (lnq q (nI i)).2) (b := j) (by omega) (by omega)).mp z; omega)) (fun _ => ?_)
    refine lv_ldc2 (v := 31) hx hb hown (hts (.constantLong RL 185 (31)) (List.mem_of_getElem? (i := 1) rfl)) dL_asks_242 ?_
    refine lv_lload_n hx hb dL_asks_245 rfl (lv_at hl 1 rfl) ?_
    refine lv_lmul hx hb dL_asks_246 ?_
    refine lv_aload_n hx hb dL_asks_247 rfl (lv_at hl 0 rfl) ?_
    refine lv_iload hx hb dL_asks_248 (lv_at hl 4 rfl) ?_
    refine ow_Si (As := [.ref at_, .int (nI j)]) (rest := [.long (((31 : Int64)) * (lpL (ak3c q i) j x0))]) ⟨hx, hb, hml, hown, hts⟩ (oL_character0 l hst D y H.size at_ V hO j (by rw [hPT.1]; omega)) (vx_cwSW 2 hts gL_asks_L_character rfl rfl rfl (by decide +kernel) ⟨(Nat.le_of_ble_eq_true rfl), (Nat.le_of_ble_eq_true rfl)⟩) hK hP hD hS hA hZ hN hJ rfl hl.1 rfl (Nat.le_of_ble_eq_true rfl) dL_asks_250 ⟨by show C + 1 ≤ 2300; omega, by show S + 6 ≤ 12000; omega⟩ (fun r9 V H locs h9 hP hD hS => ?_)
    obtain ⟨h9r, hO⟩ := h9; rw [hPT.2] at h9r; subst h9r
    refine lv_i2l hx hb dL_asks_253 rfl ?_
    refine lv_ladd hx hb dL_asks_254 ?_
    refine lv_lstore_n (lv' := [(1, .long ((((31 : Int64)) * (lpL (ak3c q i) j x0)) + ((nI ((lnq q (nI i)).1 j)).toInt64))), (0, .ref at_), (3, .int (nI i)), (4, .int (nI (lnq q (nI i)).2)), (5, .int (nI j))]) hx hb dL_asks_255 rfl hl (by decide) rfl (fun ls hl => ?_)
    refine lv_iinc (v := nI (j + 1)) (lv' := [(5, .int (nI (j + 1))), (1, .long ((((31 : Int64)) * (lpL (ak3c q i) j x0)) + ((nI ((lnq q (nI i)).1 j)).toInt64))), (0, .ref at_), (3, .int (nI i)), (4, .int (nI (lnq q (nI i)).2))]) hx hb dL_asks_256 hl (k := 4) rfl (nI_1 j) (by decide) rfl (fun ls hl => ?_)
    refine lv_goto (tgt := 235) hx hb dL_asks_259 (by decide) ?_
    exact (ih (j + 1) (by omega)) _ _ (by omega) (by omega) _ _ _ (hPT) hO H locs hP hD hS ls (lv_sub hl [2, 1, 3, 4, 0] rfl)
set_option maxHeartbeats 4000000 in
set_option maxRecDepth 100000 in
theorem as_3c {p : Program} {l : Launch} {e : Env} {s : State} {mi : MethodId} {args : Array Value} {below : List Frame} {meth : Method} {c : Code} {D : va_G} {y : Nat → ClassId} {A : Nat → Prop} {Q : State → Prop} {at_ : Nat} {q : Lad} {us : List Lad} {sv : Option Lad} {rs dt ix lf : Int32} {M : Nat} {tx : Nat → Int32} (hst : l.stackTraces = false) (C0 : mC p l c mi s args D y A cL_asks 6 wsL_asks) (x : Int64) (i : Nat) (cb sb : Nat) (hcb : cb + 222 ≤ 2280) (hsb : sb + 1062 ≤ 11900) (k : mW p l e (rmx 14 460 2300 12000) s mi args below meth c D y A at_ q us sv rs dt ix lf M tx (anyT) [] Q 6 185 [(0, .ref at_), (1, .long (x)), (3, .int (nI (i + 1)))] (cb + 222) (sb + 1062)) : mW p l e (rmx 14 460 2300 12000) s mi args below meth c D y A at_ q us sv rs dt ix lf M tx (anyT) [] Q 6 262 [(0, .ref at_), (1, .long (x)), (3, .int (nI i))] (cb + 222) (sb + 1062) := by
  obtain ⟨hx, hb, hml, hown, hts, hK, hA, hZ, hN, hJ, -⟩ := C0
  intro C S hC hS9 V NN TT hPT hO H locs hP hD hS ls hl
  refine lv_iinc (v := nI (i + 1)) (lv' := [(3, .int (nI (i + 1))), (0, .ref at_), (1, .long (x))]) hx hb dL_asks_262 hl (k := 2) rfl (nI_1 i) (by decide) rfl (fun ls hl => ?_)
  refine lv_goto (tgt := 185) hx hb dL_asks_265 (by decide) ?_
  exact k _ _ (by omega) (by omega) _ _ _ (trivial) hO H locs hP hD hS ls (lv_sub hl [1, 2, 0] rfl)
theorem as_LL3 {p : Program} {l : Launch} {e : Env} {s : State} {mi : MethodId} {args : Array Value} {below : List Frame} {meth : Method} {c : Code} {D : va_G} {y : Nat → ClassId} {A : Nat → Prop} {Q : State → Prop} {at_ : Nat} {q : Lad} {us : List Lad} {sv : Option Lad} {rs dt ix lf : Int32} {M : Nat} {tx : Nat → Int32} (hst : l.stackTraces = false) (C0 : mC p l c mi s args D y A cL_asks 6 wsL_asks) (hG : GL q) (x0 : Int64) (k : mW p l e (rmx 14 460 2300 12000) s mi args below meth c D y A at_ q us sv rs dt ix lf M tx (anyT) [] Q 6 268 [(0, .ref at_), (1, .long (lpL (ak3 q) 5 x0))] (923 + 222 * 5) (5538 + 1062 * 5)) : ∀ d j : Nat, j + d = 5 → mW p l e (rmx 14 460 2300 12000) s mi args below meth c D y A at_ q us sv rs dt ix lf M tx (anyT) [] Q 6 185 [(0, .ref at_), (1, .long (lpL (ak3 q) j x0)), (3, .int (nI j))] (923 + 222 * j) (5538 + 1062 * j) := by
  intro d
  induction d with
  | zero =>
    intro j hj
    obtain rfl : j = 5 := by omega
    exact as_3z hst C0 _ 5 rfl _ _ (by omega) (by omega) k
  | succ d ih =>
    intro j hj
    have h := ih (j + 1) (by omega)
    rw [show 923 + 222 * (j + 1) = 923 + 222 * j + 222 by omega, show 5538 + 1062 * (j + 1) = 5538 + 1062 * j + 1062 by omega] at h
    have e : lpL (ak3 q) (j + 1) x0 = lpL (ak3c q j) (lnq q (nI j)).2 (ak3m q j (lpL (ak3 q) j x0)) := (lpL_s _ _ _).trans (ak3_e _ _ _)
    rw [e] at h
    exact as_3a hst C0 (lpL (ak3 q) j x0) j (by omega) _ _ (by omega) (by omega) (as_L3 hst C0 (ak3m q j (lpL (ak3 q) j x0)) j (by omega) (lnq_le hG (by omega)) _ _ (by omega) (by omega) (as_3c hst C0 (lpL (ak3c q j) (lnq q (nI j)).2 (ak3m q j (lpL (ak3 q) j x0))) j _ _ (by omega) (by omega) h) (lnq q (nI j)).2 0 (Nat.zero_add _))
set_option maxHeartbeats 4000000 in
set_option maxRecDepth 100000 in
theorem as_4 {p : Program} {l : Launch} {e : Env} {s : State} {mi : MethodId} {args : Array Value} {below : List Frame} {meth : Method} {c : Code} {D : va_G} {y : Nat → ClassId} {A : Nat → Prop} {Q : State → Prop} {at_ : Nat} {q : Lad} {us : List Lad} {sv : Option Lad} {rs dt ix lf : Int32} {M : Nat} {tx : Nat → Int32} (hst : l.stackTraces = false) (C0 : mC p l c mi s args D y A cL_asks 6 wsL_asks) (x : Int64) (k : mW p l e (rmx 14 460 2300 12000) s mi args below meth c D y A at_ q us sv rs dt ix lf M tx (anyT) [] Q 6 270 [(0, .ref at_), (1, .long (x)), (3, .int (nI (111 * 0)))] (2033) (10848)) : mW p l e (rmx 14 460 2300 12000) s mi args below meth c D y A at_ q us sv rs dt ix lf M tx (anyT) [] Q 6 268 [(0, .ref at_), (1, .long (x))] (2033) (10848) := by
  obtain ⟨hx, hb, hml, hown, hts, hK, hA, hZ, hN, hJ, -⟩ := C0
  intro C S hC hS9 V NN TT hPT hO H locs hP hD hS ls hl
  refine lv_iconst (v := 0) hx hb dL_asks_268 (by decide) ?_
  refine lv_istore_n (lv' := [(3, .int ((0 : Int32))), (0, .ref at_), (1, .long (x))]) hx hb dL_asks_269 rfl hl (by decide) rfl (fun ls hl => ?_)
  exact k _ _ (by omega) (by omega) _ _ _ (trivial) hO H locs hP hD hS ls (lv_sub hl [1, 2, 0] rfl)
set_option maxHeartbeats 4000000 in
set_option maxRecDepth 100000 in
theorem as_L4 {p : Program} {l : Launch} {e : Env} {s : State} {mi : MethodId} {args : Array Value} {below : List Frame} {meth : Method} {c : Code} {D : va_G} {y : Nat → ClassId} {A : Nat → Prop} {Q : State → Prop} {at_ : Nat} {q : Lad} {us : List Lad} {sv : Option Lad} {rs dt ix lf : Int32} {M : Nat} {tx : Nat → Int32} (hst : l.stackTraces = false) (C0 : mC p l c mi s args D y A cL_asks 6 wsL_asks) (x0 : Int64) (k : mW p l e (rmx 14 460 2300 12000) s mi args below meth c D y A at_ q us sv rs dt ix lf M tx (anyT) [] Q 6 340 [(0, .ref at_), (1, .long (lpL (ak4 q) 10 x0))] (2103) (11268)) : ∀ d j : Nat, j + d = 10 → mW p l e (rmx 14 460 2300 12000) s mi args below meth c D y A at_ q us sv rs dt ix lf M tx (anyT) [] Q 6 270 [(0, .ref at_), (1, .long (lpL (ak4 q) j x0)), (3, .int (nI (111 * j)))] (2033 + 7 * j) (10848 + 42 * j) := by
  have C1 := C0
  obtain ⟨hx, hb, hml, hown, hts, hK, hA, hZ, hN, hJ, -⟩ := C0
  intro d
  induction d with
  | zero =>
    intro j hj
    obtain rfl : j = 10 := by omega
    intro C S hC hS9 V NN TT hPT hO H locs hP hD hS ls hl
    refine lv_iload_n hx hb dL_asks_270 rfl (lv_at hl 2 rfl) ?_
    refine lv_sipush (v := 1000) hx hb dL_asks_271 (by decide) ?_
    refine lv_icmp_ge (tgt := 340) hx hb dL_asks_274 (by decide) (fun _ => ?_) (fun h9 => absurd ((nI_leI (a := 1000) (b := 111 * 10) (by omega) (by omega)).mpr (by omega)) h9)
    exact k _ _ (by omega) (by omega) _ _ _ (trivial) hO H locs hP hD hS ls (lv_sub hl [0, 1] rfl)
  | succ d ih =>
    intro j hj
    intro C S hC hS9 V NN TT hPT hO H locs hP hD hS ls hl
    refine lv_iload_n hx hb dL_asks_270 rfl (lv_at hl 2 rfl) ?_
    refine lv_sipush (v := 1000) hx hb dL_asks_271 (by decide) ?_
    refine lv_icmp_ge (tgt := 340) hx hb dL_asks_274 (by decide) (fun h9 => absurd h9 (fun z => by have := (nI_leI (a := 1000) (b := 111 * j) (by omega) (by omega)).mp z; omega)) (fun _ => ?_)
    refine lv_ldc2 (v := 31) hx hb hown (hts (.constantLong RL 185 (31)) (List.mem_of_getElem? (i := 1) rfl)) dL_asks_277 ?_
    refine lv_ldc2 (v := 31) hx hb hown (hts (.constantLong RL 185 (31)) (List.mem_of_getElem? (i := 1) rfl)) dL_asks_280 ?_
    refine lv_ldc2 (v := 31) hx hb hown (hts (.constantLong RL 185 (31)) (List.mem_of_getElem? (i := 1) rfl)) dL_asks_283 ?_
    refine lv_ldc2 (v := 31) hx hb hown (hts (.constantLong RL 185 (31)) (List.mem_of_getElem? (i := 1) rfl)) dL_asks_286 ?_
    refine lv_ldc2 (v := 31) hx hb hown (hts (.constantLong RL 185 (31)) (List.mem_of_getElem? (i := 1) rfl)) dL_asks_289 ?_
    refine lv_lload_n hx hb dL_asks_292 rfl (lv_at hl 1 rfl) ?_
    refine lv_lmul hx hb dL_asks_293 ?_
    refine lv_aload_n hx hb dL_asks_294 rfl (lv_at hl 0 rfl) ?_
    refine lv_iload_n hx hb dL_asks_295 rfl (lv_at hl 2 rfl) ?_
    refine ow_S12 (As := [.ref at_, .int (nI (111 * j))]) (rest := [.long (((31 : Int64)) * (lpL (ak4 q) j x0)), .long ((31 : Int64)), .long ((31 : Int64)), .long ((31 : Int64)), .long ((31 : Int64))]) ⟨hx, hb, hml, hown, hts⟩ (oL_rank l hst D y H.size at_ V (nI (111 * j)) hO) (vx_cwSW 2 hts gL_asks_L_rank rfl rfl rfl (by decide +kernel) ⟨(Nat.le_of_ble_eq_true rfl), (Nat.le_of_ble_eq_true rfl)⟩) hK hP hD hS hA hZ hN hJ rfl hl.1 rfl (Nat.le_of_ble_eq_true rfl) (Nat.le_of_ble_eq_true rfl) dL_asks_296 ⟨by show C + 1 ≤ 2300; omega, by show S + 6 ≤ 12000; omega⟩ (fun r9 V H locs h9 hP hD hS => ?_)
    obtain ⟨rfl, hO⟩ := h9
    refine lv_i2l hx hb dL_asks_299 rfl ?_
    refine lv_ladd hx hb dL_asks_300 ?_
    refine lv_lmul hx hb dL_asks_301 ?_
    refine lv_aload_n hx hb dL_asks_302 rfl (lv_at hl 0 rfl) ?_
    refine lv_iload_n hx hb dL_asks_303 rfl (lv_at hl 2 rfl) ?_
    refine ow_Si (As := [.ref at_, .int (nI (111 * j))]) (rest := [.long (((31 : Int64)) * ((((31 : Int64)) * (lpL (ak4 q) j x0)) + (((lq_rank q (nI (111 * j)))).toInt64))), .long ((31 : Int64)), .long ((31 : Int64)), .long ((31 : Int64))]) ⟨hx, hb, hml, hown, hts⟩ (oL_rankAgain l hst D y H.size at_ V (nI (111 * j)) hO) (vx_cwSW 2 hts gL_asks_L_rankAgain rfl rfl rfl (by decide +kernel) ⟨(Nat.le_of_ble_eq_true rfl), (Nat.le_of_ble_eq_true rfl)⟩) hK hP hD hS hA hZ hN hJ rfl hl.1 rfl (Nat.le_of_ble_eq_true rfl) dL_asks_304 ⟨by show C + 1 + 1 ≤ 2300; omega, by show S + 6 + 6 ≤ 12000; omega⟩ (fun r9 V H locs h9 hP hD hS => ?_)
    obtain ⟨rfl, hO⟩ := h9
    refine lv_i2l hx hb dL_asks_307 rfl ?_
    refine lv_ladd hx hb dL_asks_308 ?_
    refine lv_lmul hx hb dL_asks_309 ?_
    refine lv_aload_n hx hb dL_asks_310 rfl (lv_at hl 0 rfl) ?_
    refine lv_iload_n hx hb dL_asks_311 rfl (lv_at hl 2 rfl) ?_
    refine ow_Si (As := [.ref at_, .int (nI (111 * j))]) (rest := [.long (((31 : Int64)) * ((((31 : Int64)) * ((((31 : Int64)) * (lpL (ak4 q) j x0)) + (((lq_rank q (nI (111 * j)))).toInt64))) + (((lq_rankAgain q (nI (111 * j)))).toInt64))), .long ((31 : Int64)), .long ((31 : Int64))]) ⟨hx, hb, hml, hown, hts⟩ (oL_floor l hst D y H.size at_ V (nI (111 * j)) hO) (vx_cwSW 2 hts gL_asks_L_floor rfl rfl rfl (by decide +kernel) ⟨(Nat.le_of_ble_eq_true rfl), (Nat.le_of_ble_eq_true rfl)⟩) hK hP hD hS hA hZ hN hJ rfl hl.1 rfl (Nat.le_of_ble_eq_true rfl) dL_asks_312 ⟨by show C + 1 + 1 + 2 ≤ 2300; omega, by show S + 6 + 6 + 12 ≤ 12000; omega⟩ (fun r9 V H locs h9 hP hD hS => ?_)
    obtain ⟨rfl, hO⟩ := h9
    refine lv_i2l hx hb dL_asks_315 rfl ?_
    refine lv_ladd hx hb dL_asks_316 ?_
    refine lv_lmul hx hb dL_asks_317 ?_
    refine lv_aload_n hx hb dL_asks_318 rfl (lv_at hl 0 rfl) ?_
    refine lv_iload_n hx hb dL_asks_319 rfl (lv_at hl 2 rfl) ?_
    refine ow_Si (As := [.ref at_, .int (nI (111 * j))]) (rest := [.long (((31 : Int64)) * ((((31 : Int64)) * ((((31 : Int64)) * ((((31 : Int64)) * (lpL (ak4 q) j x0)) + (((lq_rank q (nI (111 * j)))).toInt64))) + (((lq_rankAgain q (nI (111 * j)))).toInt64))) + (((lq_floor q (nI (111 * j)))).toInt64))), .long ((31 : Int64))]) ⟨hx, hb, hml, hown, hts⟩ (oL_ceiling l hst D y H.size at_ V (nI (111 * j)) hO) (vx_cwSW 2 hts gL_asks_L_ceiling rfl rfl rfl (by decide +kernel) ⟨(Nat.le_of_ble_eq_true rfl), (Nat.le_of_ble_eq_true rfl)⟩) hK hP hD hS hA hZ hN hJ rfl hl.1 rfl (Nat.le_of_ble_eq_true rfl) dL_asks_320 ⟨by show C + 1 + 1 + 2 + 2 ≤ 2300; omega, by show S + 6 + 6 + 12 + 12 ≤ 12000; omega⟩ (fun r9 V H locs h9 hP hD hS => ?_)
    obtain ⟨rfl, hO⟩ := h9
    refine lv_i2l hx hb dL_asks_323 rfl ?_
    refine lv_ladd hx hb dL_asks_324 ?_
    refine lv_lmul hx hb dL_asks_325 ?_
    refine lv_aload_n hx hb dL_asks_326 rfl (lv_at hl 0 rfl) ?_
    refine lv_iload_n hx hb dL_asks_327 rfl (lv_at hl 2 rfl) ?_
    refine ow_Si (As := [.ref at_, .int (nI (111 * j))]) (rest := [.long (((31 : Int64)) * ((((31 : Int64)) * ((((31 : Int64)) * ((((31 : Int64)) * ((((31 : Int64)) * (lpL (ak4 q) j x0)) + (((lq_rank q (nI (111 * j)))).toInt64))) + (((lq_rankAgain q (nI (111 * j)))).toInt64))) + (((lq_floor q (nI (111 * j)))).toInt64))) + (((lq_ceiling q (nI (111 * j)))).toInt64)))]) ⟨hx, hb, hml, hown, hts⟩ (oL_steps l hst D y H.size at_ V (nI (111 * j)) hO) (vx_cwSW 2 hts gL_asks_L_steps rfl rfl rfl (by decide +kernel) ⟨(Nat.le_of_ble_eq_true rfl), (Nat.le_of_ble_eq_true rfl)⟩) hK hP hD hS hA hZ hN hJ rfl hl.1 rfl (Nat.le_of_ble_eq_true rfl) dL_asks_328 ⟨by show C + 1 + 1 + 2 + 2 + 1 ≤ 2300; omega, by show S + 6 + 6 + 12 + 12 + 6 ≤ 12000; omega⟩ (fun r9 V H locs h9 hP hD hS => ?_)
    obtain ⟨rfl, hO⟩ := h9
    refine lv_i2l hx hb dL_asks_331 rfl ?_
    refine lv_ladd hx hb dL_asks_332 ?_
    refine lv_lstore_n (lv' := [(1, .long ((((31 : Int64)) * ((((31 : Int64)) * ((((31 : Int64)) * ((((31 : Int64)) * ((((31 : Int64)) * (lpL (ak4 q) j x0)) + (((lq_rank q (nI (111 * j)))).toInt64))) + (((lq_rankAgain q (nI (111 * j)))).toInt64))) + (((lq_floor q (nI (111 * j)))).toInt64))) + (((lq_ceiling q (nI (111 * j)))).toInt64))) + (((lq_steps q (nI (111 * j)))).toInt64))), (0, .ref at_), (3, .int (nI (111 * j)))]) hx hb dL_asks_333 rfl hl (by decide) rfl (fun ls hl => ?_)
    refine lv_iinc (v := nI (111 * (j + 1))) (lv' := [(3, .int (nI (111 * (j + 1)))), (1, .long ((((31 : Int64)) * ((((31 : Int64)) * ((((31 : Int64)) * ((((31 : Int64)) * ((((31 : Int64)) * (lpL (ak4 q) j x0)) + (((lq_rank q (nI (111 * j)))).toInt64))) + (((lq_rankAgain q (nI (111 * j)))).toInt64))) + (((lq_floor q (nI (111 * j)))).toInt64))) + (((lq_ceiling q (nI (111 * j)))).toInt64))) + (((lq_steps q (nI (111 * j)))).toInt64))), (0, .ref at_)]) hx hb dL_asks_334 hl (k := 2) rfl (nI_add (111 * j) 111) (by decide) rfl (fun ls hl => ?_)
    refine lv_goto (tgt := 270) hx hb dL_asks_337 (by decide) ?_
    exact (ih (j + 1) (by omega)) _ _ (by omega) (by omega) _ _ _ (trivial) hO H locs hP hD hS ls (lv_sub hl [2, 1, 0] rfl)
set_option maxHeartbeats 4000000 in
set_option maxRecDepth 100000 in
theorem as_5 {p : Program} {l : Launch} {e : Env} {s : State} {mi : MethodId} {args : Array Value} {below : List Frame} {meth : Method} {c : Code} {D : va_G} {y : Nat → ClassId} {A : Nat → Prop} {at_ : Nat} {q : Lad} {us : List Lad} {sv : Option Lad} {rs dt ix lf : Int32} {M : Nat} {tx : Nat → Int32} {V0 : va_W} (hst : l.stackTraces = false) (C0 : mC p l c mi s args D y A cL_asks 6 wsL_asks) (hr : meth.sig.returnType = some .long) (hlocks : meth.locks = false) (hAe : va_A V0 s.heap.size = A) (x : Int64) (hv : ak5 q x = askV q) : mW p l e (rmx 14 460 2300 12000) s mi args below meth c D y A at_ q us sv rs dt ix lf M tx (anyT) [] (MQ below (oQl D y (fun r V' => r = askV q ∧ ∃ NN TT, Ob y at_ q us sv rs dt ix lf M tx NN TT V') V0 s.heap.size) args s 2300 12000 (va_A V0 s.heap.size)) 6 340 [(0, .ref at_), (1, .long (x))] (2103) (11268) := by
  obtain ⟨hx, hb, hml, hown, hts, hK, hA, hZ, hN, hJ, -⟩ := C0
  intro C S hC hS9 V NN TT hPT hO H locs hP hD hS ls hl
  refine lv_ldc2 (v := 31) hx hb hown (hts (.constantLong RL 185 (31)) (List.mem_of_getElem? (i := 1) rfl)) dL_asks_340 ?_
  refine lv_ldc2 (v := 31) hx hb hown (hts (.constantLong RL 185 (31)) (List.mem_of_getElem? (i := 1) rfl)) dL_asks_343 ?_
  refine lv_ldc2 (v := 31) hx hb hown (hts (.constantLong RL 185 (31)) (List.mem_of_getElem? (i := 1) rfl)) dL_asks_346 ?_
  refine lv_ldc2 (v := 31) hx hb hown (hts (.constantLong RL 185 (31)) (List.mem_of_getElem? (i := 1) rfl)) dL_asks_349 ?_
  refine lv_ldc2 (v := 31) hx hb hown (hts (.constantLong RL 185 (31)) (List.mem_of_getElem? (i := 1) rfl)) dL_asks_352 ?_
  refine lv_lload_n hx hb dL_asks_355 rfl (lv_at hl 1 rfl) ?_
  refine lv_lmul hx hb dL_asks_356 ?_
  refine lv_aload_n hx hb dL_asks_357 rfl (lv_at hl 0 rfl) ?_
  refine lv_bipush (v := 30) hx hb dL_asks_358 (by decide) ?_
  refine lv_sipush (v := 700) hx hb dL_asks_360 (by decide) ?_
  refine ow_S12 (As := [.ref at_, .int ((30 : Int32)), .int ((700 : Int32))]) (rest := [.long (((31 : Int64)) * (x)), .long ((31 : Int64)), .long ((31 : Int64)), .long ((31 : Int64)), .long ((31 : Int64))]) ⟨hx, hb, hml, hown, hts⟩ (oL_count l hst D y H.size at_ V ((30 : Int32)) ((700 : Int32)) hO) (vx_cwSW 3 hts gL_asks_L_count rfl rfl rfl (by decide +kernel) ⟨(Nat.le_of_ble_eq_true rfl), (Nat.le_of_ble_eq_true rfl)⟩) hK hP hD hS hA hZ hN hJ rfl hl.1 rfl (Nat.le_of_ble_eq_true rfl) (Nat.le_of_ble_eq_true rfl) dL_asks_363 ⟨by show C + 3 ≤ 2300; omega, by show S + 18 ≤ 12000; omega⟩ (fun r9 V H locs h9 hP hD hS => ?_)
  obtain ⟨rfl, hO⟩ := h9
  refine lv_i2l hx hb dL_asks_366 rfl ?_
  refine lv_ladd hx hb dL_asks_367 ?_
  refine lv_lmul hx hb dL_asks_368 ?_
  refine lv_aload_n hx hb dL_asks_369 rfl (lv_at hl 0 rfl) ?_
  refine lv_bipush (v := 30) hx hb dL_asks_370 (by decide) ?_
  refine lv_sipush (v := 700) hx hb dL_asks_372 (by decide) ?_
  refine ow_Si (As := [.ref at_, .int ((30 : Int32)), .int ((700 : Int32))]) (rest := [.long (((31 : Int64)) * ((((31 : Int64)) * (x)) + (((lq_count q ((30 : Int32)) ((700 : Int32)))).toInt64))), .long ((31 : Int64)), .long ((31 : Int64)), .long ((31 : Int64))]) ⟨hx, hb, hml, hown, hts⟩ (oL_countAgain l hst D y H.size at_ V ((30 : Int32)) ((700 : Int32)) hO) (vx_cwSW 3 hts gL_asks_L_countAgain rfl rfl rfl (by decide +kernel) ⟨(Nat.le_of_ble_eq_true rfl), (Nat.le_of_ble_eq_true rfl)⟩) hK hP hD hS hA hZ hN hJ rfl hl.1 rfl (Nat.le_of_ble_eq_true rfl) dL_asks_375 ⟨by show C + 3 + 3 ≤ 2300; omega, by show S + 18 + 18 ≤ 12000; omega⟩ (fun r9 V H locs h9 hP hD hS => ?_)
  obtain ⟨rfl, hO⟩ := h9
  refine lv_i2l hx hb dL_asks_378 rfl ?_
  refine lv_ladd hx hb dL_asks_379 ?_
  refine lv_lmul hx hb dL_asks_380 ?_
  refine lv_aload_n hx hb dL_asks_381 rfl (lv_at hl 0 rfl) ?_
  refine lv_iconst (v := 5) hx hb dL_asks_382 (by decide) ?_
  refine lv_sipush (v := 500) hx hb dL_asks_383 (by decide) ?_
  refine ow_Si (As := [.ref at_, .int ((5 : Int32)), .int ((500 : Int32))]) (rest := [.long (((31 : Int64)) * ((((31 : Int64)) * ((((31 : Int64)) * (x)) + (((lq_count q ((30 : Int32)) ((700 : Int32)))).toInt64))) + (((lq_countAgain q ((30 : Int32)) ((700 : Int32)))).toInt64))), .long ((31 : Int64)), .long ((31 : Int64))]) ⟨hx, hb, hml, hown, hts⟩ (oL_weightIn l hst D y H.size at_ V ((5 : Int32)) ((500 : Int32)) hO) (vx_cwSW 3 hts gL_asks_L_weightIn rfl rfl rfl (by decide +kernel) ⟨(Nat.le_of_ble_eq_true rfl), (Nat.le_of_ble_eq_true rfl)⟩) hK hP hD hS hA hZ hN hJ rfl hl.1 rfl (Nat.le_of_ble_eq_true rfl) dL_asks_386 ⟨by show C + 3 + 3 + 3 ≤ 2300; omega, by show S + 18 + 18 + 18 ≤ 12000; omega⟩ (fun r9 V H locs h9 hP hD hS => ?_)
  obtain ⟨rfl, hO⟩ := h9
  refine lv_i2l hx hb dL_asks_389 rfl ?_
  refine lv_ladd hx hb dL_asks_390 ?_
  refine lv_lmul hx hb dL_asks_391 ?_
  refine lv_aload_n hx hb dL_asks_392 rfl (lv_at hl 0 rfl) ?_
  refine lv_iconst (v := 5) hx hb dL_asks_393 (by decide) ?_
  refine lv_sipush (v := 500) hx hb dL_asks_394 (by decide) ?_
  refine ow_Si (As := [.ref at_, .int ((5 : Int32)), .int ((500 : Int32))]) (rest := [.long (((31 : Int64)) * ((((31 : Int64)) * ((((31 : Int64)) * ((((31 : Int64)) * (x)) + (((lq_count q ((30 : Int32)) ((700 : Int32)))).toInt64))) + (((lq_countAgain q ((30 : Int32)) ((700 : Int32)))).toInt64))) + (((lq_weightIn q ((5 : Int32)) ((500 : Int32)))).toInt64))), .long ((31 : Int64))]) ⟨hx, hb, hml, hown, hts⟩ (oL_heaviestIn l hst D y H.size at_ V ((5 : Int32)) ((500 : Int32)) hO) (vx_cwSW 3 hts gL_asks_L_heaviestIn rfl rfl rfl (by decide +kernel) ⟨(Nat.le_of_ble_eq_true rfl), (Nat.le_of_ble_eq_true rfl)⟩) hK hP hD hS hA hZ hN hJ rfl hl.1 rfl (Nat.le_of_ble_eq_true rfl) dL_asks_397 ⟨by show C + 3 + 3 + 3 + 4 ≤ 2300; omega, by show S + 18 + 18 + 18 + 24 ≤ 12000; omega⟩ (fun r9 V H locs h9 hP hD hS => ?_)
  obtain ⟨rfl, hO⟩ := h9
  refine lv_i2l hx hb dL_asks_400 rfl ?_
  refine lv_ladd hx hb dL_asks_401 ?_
  refine lv_lmul hx hb dL_asks_402 ?_
  refine lv_ldc2 (v := 31) hx hb hown (hts (.constantLong RL 185 (31)) (List.mem_of_getElem? (i := 1) rfl)) dL_asks_403 ?_
  refine lv_aload_n hx hb dL_asks_406 rfl (lv_at hl 0 rfl) ?_
  refine ow_Si (As := [.ref at_]) (rest := [.long ((31 : Int64)), .long (((31 : Int64)) * ((((31 : Int64)) * ((((31 : Int64)) * ((((31 : Int64)) * ((((31 : Int64)) * (x)) + (((lq_count q ((30 : Int32)) ((700 : Int32)))).toInt64))) + (((lq_countAgain q ((30 : Int32)) ((700 : Int32)))).toInt64))) + (((lq_weightIn q ((5 : Int32)) ((500 : Int32)))).toInt64))) + (((lq_heaviestIn q ((5 : Int32)) ((500 : Int32)))).toInt64)))]) ⟨hx, hb, hml, hown, hts⟩ (oL_longestSearch l hst D y H.size at_ V  hO) (vx_cwSW 1 hts gL_asks_L_longestSearch rfl rfl rfl (by decide +kernel) ⟨(Nat.le_of_ble_eq_true rfl), (Nat.le_of_ble_eq_true rfl)⟩) hK hP hD hS hA hZ hN hJ rfl hl.1 rfl (Nat.le_of_ble_eq_true rfl) dL_asks_407 ⟨by show C + 3 + 3 + 3 + 4 + 1 ≤ 2300; omega, by show S + 18 + 18 + 18 + 24 + 6 ≤ 12000; omega⟩ (fun r9 V H locs h9 hP hD hS => ?_)
  obtain ⟨rfl, hO⟩ := h9
  refine lv_i2l hx hb dL_asks_410 rfl ?_
  refine lv_lmul hx hb dL_asks_411 ?_
  refine lv_ladd hx hb dL_asks_412 ?_
  refine lv_aload_n hx hb dL_asks_413 rfl (lv_at hl 0 rfl) ?_
  obtain ⟨fs, he⟩ := Ob_head hO
  refine ow_V (As := []) (rest := [.long ((((31 : Int64)) * ((((31 : Int64)) * ((((31 : Int64)) * ((((31 : Int64)) * ((((31 : Int64)) * (x)) + (((lq_count q ((30 : Int32)) ((700 : Int32)))).toInt64))) + (((lq_countAgain q ((30 : Int32)) ((700 : Int32)))).toInt64))) + (((lq_weightIn q ((5 : Int32)) ((500 : Int32)))).toInt64))) + (((lq_heaviestIn q ((5 : Int32)) ((500 : Int32)))).toInt64))) + (((31 : Int64)) * (((lq_longestSearch q )).toInt64)))]) ⟨hx, hb, hml, hown, hts⟩ (o_nextRungs l hst D y H.size at_ V hO) (cwV 0 hts gL_asks_X7_nextRungs rfl rfl rfl (by decide +kernel) ⟨(Nat.le_of_ble_eq_true rfl), (Nat.le_of_ble_eq_true rfl)⟩) he hK hP hD hS hA hZ hN hJ rfl hl.1 rfl (Nat.le_of_ble_eq_true rfl) dL_asks_414 ⟨by show C + 3 + 3 + 3 + 4 + 1 + 0 ≤ 2300; omega, by show S + 18 + 18 + 18 + 24 + 6 + 0 ≤ 12000; omega⟩ (fun hk => absurd rfl hk) (fun _ r9 V H locs h9 hP hD hS => ?_)
  obtain ⟨rfl, hO⟩ := h9
  refine lv_i2l hx hb dL_asks_417 rfl ?_
  refine lv_ladd hx hb dL_asks_418 ?_
  refine W.widen (k := 2300) (n := 12000) (by omega) (by omega) ?_
  exact omret_l hx hb hr hlocks hAe hK hP hD hS ⟨hv, _, _, hO⟩ dL_asks_419
