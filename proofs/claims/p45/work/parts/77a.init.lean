theorem iX1_init_X1 : ∀ w ∈ u_ws RX1 TX1 3, w ∈ wsX1_init := fun w h => List.mem_cons_of_mem _ (List.mem_append_right _ h)
def w1_X1_init (y : Nat → ClassId) (a_t : Nat) (u : Nat → Nat) : va_W := [(a_t, .inr (5, [.int (1 : Int32), .int (0 : Int32), .int (0 : Int32)]))]
set_option maxHeartbeats 4000000 in
set_option maxRecDepth 100000 in
theorem c_X1_init (l : Launch) (D : va_G) (y : Nat → ClassId) (sz : Nat) (a_t : Nat) : Met l yX1_init wsX1_init (rmx 1 40 0 0) (wrP D y [(a_t, .inr (5, [.int 0, .int 0, .int 0]))] sz [.ref a_t]) (wQn D y (w1_X1_init y a_t) [(a_t, .inr (5, [.int 0, .int 0, .int 0]))] sz) 0 0 (va_A [(a_t, .inr (5, [.int 0, .int 0, .int 0]))] sz) := by
  refine Met.ofW (cc := cX1_init) (maxL := 1) (ret := none) (by decide) rfl ?_
  intro p e s m args below meth c s₁ B hml hv
  obtain ⟨hav, hsz, hP, hK, hD0⟩ := hv
  have hx := B.exec
  have hb := B.bytes
  have hr := B.returns
  have hts := atoms_spec (ws := wsX1_init) B.pre
  have hown : s.vm.findClass RX1 = some m.cls := findClass_of_methodNamed B.named
  have hlocks := B.notSynchronized
  have hin : meth.name = "<init>" := (name_of_methodNamed B.named B.method).1
  subst hsz
  have hD := hD0.self (sz := s.heap.size)
  obtain ⟨A, hAe⟩ : ∃ A : Nat → Prop, va_A [(a_t, .inr (5, [.int 0, .int 0, .int 0]))] s.heap.size = A := ⟨_, rfl⟩
  rw [hAe] at hD
  have hA : ∀ q, s.heap.size ≤ q → A q := fun q h => by rw [← hAe]; exact Or.inr h
  have hS : va_S A s.heap s.heap [] := va_S.rf
  refine W_q (R1 := (rmx 1 40 0 0)) rfl (fun Q0 hQ0 => ?_)
  refine W_entry hav (Nat.le_of_ble_eq_true rfl) (fun ls hl => ?_)
  have hl : lv_has ls 1 [(0, .ref a_t)] := hl
  refine lv_aload_n hx hb dX1_init_0 rfl (lv_at hl 0 rfl) ?_
  refine W.objInit hx hb hown (hts (.methodLink RX1 3 objectInit) (List.mem_of_getElem? (i := 1) rfl)) (hts (.instanceMethod objectInit) (List.mem_of_getElem? (i := 2) rfl)) (hts (.code objectInit ⟨#[0xb1]⟩ 1 none) (List.mem_of_getElem? (i := 3) rfl)) rfl (by rw [hml]; exact hl.1) rfl dX1_init_1 (Nat.le_of_ble_eq_true rfl) (Nat.le_of_ble_eq_true rfl) ?_
  refine W.eq (g2 := F0 m 4 ls []) rfl ?_
  refine lv_aload_n hx hb dX1_init_4 rfl (lv_at hl 0 rfl) ?_
  refine lv_iconst (v := 1) hx hb dX1_init_5 (by decide) ?_
  refine va_put (D := D) (ci := 5) (v := .int (1 : Int32)) (ty := .int) (C := RX1) (T := TX1) (N := 3) hx hb hts iX1_init_X1 tyX1 tyX1_ok nmX1 hown hK hP hD hS 0 rfl rfl 0 (by decide) (hts (.fieldLink RX1 9 "SkipArchive$Coin" "number" "I") (List.mem_of_getElem? (i := 4) rfl)) (fun _ h9 => h9) rfl (by decide +kernel) rfl rfl (Nat.le_of_ble_eq_true rfl) dX1_init_6 (fun H locs hP hD hS => ?_)
  have hP : va_P D vwCl [(a_t, .inr (5, [.int (1 : Int32), .int 0, .int 0]))] H := hP
  have hD : va_D A [(a_t, .inr (5, [.int (1 : Int32), .int 0, .int 0]))] := hD
  refine lv_aload_n hx hb dX1_init_9 rfl (lv_at hl 0 rfl) ?_
  refine lv_iconst (v := 0) hx hb dX1_init_10 (by decide) ?_
  refine va_put (D := D) (ci := 5) (v := .int (0 : Int32)) (ty := .int) (C := RX1) (T := TX1) (N := 3) hx hb hts iX1_init_X1 tyX1 tyX1_ok nmX1 hown hK hP hD hS 0 rfl rfl 1 (by decide) (hts (.fieldLink RX1 15 "SkipArchive$Coin" "tossed" "I") (List.mem_of_getElem? (i := 5) rfl)) (fun _ h9 => h9) rfl (by decide +kernel) rfl rfl (Nat.le_of_ble_eq_true rfl) dX1_init_11 (fun H locs hP hD hS => ?_)
  have hP : va_P D vwCl [(a_t, .inr (5, [.int (1 : Int32), .int (0 : Int32), .int 0]))] H := hP
  have hD : va_D A [(a_t, .inr (5, [.int (1 : Int32), .int (0 : Int32), .int 0]))] := hD
  refine lv_aload_n hx hb dX1_init_14 rfl (lv_at hl 0 rfl) ?_
  refine lv_iconst (v := 0) hx hb dX1_init_15 (by decide) ?_
  refine va_put (D := D) (ci := 5) (v := .int (0 : Int32)) (ty := .int) (C := RX1) (T := TX1) (N := 3) hx hb hts iX1_init_X1 tyX1 tyX1_ok nmX1 hown hK hP hD hS 0 rfl rfl 2 (by decide) (hts (.fieldLink RX1 18 "SkipArchive$Coin" "heads" "I") (List.mem_of_getElem? (i := 6) rfl)) (fun _ h9 => h9) rfl (by decide +kernel) rfl rfl (Nat.le_of_ble_eq_true rfl) dX1_init_16 (fun H locs hP hD hS => ?_)
  have hP : va_P D vwCl [(a_t, .inr (5, [.int (1 : Int32), .int (0 : Int32), .int (0 : Int32)]))] H := hP
  have hD : va_D A [(a_t, .inr (5, [.int (1 : Int32), .int (0 : Int32), .int (0 : Int32)]))] := hD
  rw [hQ0]
  refine W.widen (k := 0) (n := 0) (Nat.le_of_ble_eq_true rfl) (Nat.le_of_ble_eq_true rfl) ?_
  exact ret_n (pk_ []) hx hb hr hlocks hAe hK hP hD hS [0] rfl rfl dX1_init_19
theorem iX3_init_X1 : ∀ w ∈ u_ws RX1 TX1 3, w ∈ wsX3_init := fun w h => List.mem_cons_of_mem _ (List.mem_append_right _ h)
theorem iX3_init_X3 : ∀ w ∈ u_ws RX3 TX3 6, w ∈ wsX3_init := fun w h => List.mem_cons_of_mem _ (List.mem_append_left _ (List.mem_append_right _ h))
def w1_X3_init (y : Nat → ClassId) (a_t : Nat) (u : Nat → Nat) : va_W := [(a_t, .inr (7, [.ref (u 0), .ref (u 1), .ref (u 2), .ref (u 3), .int (0 : Int32), .int (0 : Int32)])), ((u 0), .inl (y 0, 24, .inl (fun _ => 0))), ((u 1), .inl (y 0, 24, .inl (fun _ => 0))), ((u 2), .inl (y 0, 24, .inl (fun _ => 0))), ((u 3), .inr (5, [.int (1 : Int32), .int (0 : Int32), .int (0 : Int32)]))]
set_option maxHeartbeats 4000000 in
set_option maxRecDepth 100000 in
theorem c_X3_init (l : Launch) (D : va_G) (y : Nat → ClassId) (sz : Nat) (a_t : Nat) : Met l yX3_init wsX3_init (rmx 2 60 4 75) (wrP D y [(a_t, .inr (7, [.null, .null, .null, .null, .int 0, .int 0]))] sz [.ref a_t]) (wQn D y (w1_X3_init y a_t) [(a_t, .inr (7, [.null, .null, .null, .null, .int 0, .int 0]))] sz) 4 75 (va_A [(a_t, .inr (7, [.null, .null, .null, .null, .int 0, .int 0]))] sz) := by
  refine Met.ofW (cc := cX3_init) (maxL := 1) (ret := none) (by decide) rfl ?_
  intro p e s m args below meth c s₁ B hml hv
  obtain ⟨hav, hsz, hP, hK, hD0⟩ := hv
  have hx := B.exec
  have hb := B.bytes
  have hr := B.returns
  have hts := atoms_spec (ws := wsX3_init) B.pre
  have hown : s.vm.findClass RX3 = some m.cls := findClass_of_methodNamed B.named
  have hlocks := B.notSynchronized
  have hin : meth.name = "<init>" := (name_of_methodNamed B.named B.method).1
  subst hsz
  have hD := hD0.self (sz := s.heap.size)
  obtain ⟨A, hAe⟩ : ∃ A : Nat → Prop, va_A [(a_t, .inr (7, [.null, .null, .null, .null, .int 0, .int 0]))] s.heap.size = A := ⟨_, rfl⟩
  rw [hAe] at hD
  have hA : ∀ q, s.heap.size ≤ q → A q := fun q h => by rw [← hAe]; exact Or.inr h
  have hS : va_S A s.heap s.heap [] := va_S.rf
  refine W_q (R1 := (rmx 2 60 4 75)) rfl (fun Q0 hQ0 => ?_)
  refine W_entry hav (Nat.le_of_ble_eq_true rfl) (fun ls hl => ?_)
  have hl : lv_has ls 1 [(0, .ref a_t)] := hl
  refine lv_aload_n hx hb dX3_init_0 rfl (lv_at hl 0 rfl) ?_
  refine W.objInit hx hb hown (hts (.methodLink RX3 3 objectInit) (List.mem_of_getElem? (i := 1) rfl)) (hts (.instanceMethod objectInit) (List.mem_of_getElem? (i := 2) rfl)) (hts (.code objectInit ⟨#[0xb1]⟩ 1 none) (List.mem_of_getElem? (i := 3) rfl)) rfl (by rw [hml]; exact hl.1) rfl dX3_init_1 (Nat.le_of_ble_eq_true rfl) (Nat.le_of_ble_eq_true rfl) ?_
  refine W.eq (g2 := F0 m 4 ls []) rfl ?_
  refine lv_aload_n hx hb dX3_init_4 rfl (lv_at hl 0 rfl) ?_
  refine lv_bipush (v := 24) hx hb dX3_init_5 (by decide) ?_
  refine nw_a (atype := .int) hx hb (hts (.arrayClass .int) (List.mem_of_getElem? (i := 4) rfl)) rfl hK hP hD hS hA (a0 := (24, .inl (fun _ => 0))) (N' := 24) (fun _ => rfl) (by decide) (by decide) (Nat.le_of_ble_eq_true rfl) (Nat.le_of_ble_eq_true rfl) (Nat.le_of_ble_eq_true rfl) dX3_init_7 0 rfl (fun q7 H hP hD hS => ?_)
  have hP : va_P D vwCl [(a_t, .inr (7, [.null, .null, .null, .null, .int 0, .int 0])), (q7, .inl (y 0, 24, .inl (fun _ => 0)))] H := hP
  have hD : va_D A [(a_t, .inr (7, [.null, .null, .null, .null, .int 0, .int 0])), (q7, .inl (y 0, 24, .inl (fun _ => 0)))] := hD
  refine va_putF (D := D) (ci := 7) (v := .ref q7) (ty := .array .int) (C := RX3) (T := TX3) (N := 6) hx hb hts iX3_init_X3 tyX3 tyX3_ok nmX3 hown hK hP hD hS 0 rfl rfl 0 (by decide) (hts (.fieldLink RX3 9 "SkipArchive$Ladder" "keys" "[I") (List.mem_of_getElem? (i := 5) rfl)) (fun _ h9 => h9) rfl hin rfl (by decide +kernel) rfl rfl (Nat.le_of_ble_eq_true rfl) dX3_init_9 (fun H locs hP hD hS => ?_)
  have hP : va_P D vwCl [(a_t, .inr (7, [.ref q7, .null, .null, .null, .int 0, .int 0])), (q7, .inl (y 0, 24, .inl (fun _ => 0)))] H := hP
  have hD : va_D A [(a_t, .inr (7, [.ref q7, .null, .null, .null, .int 0, .int 0])), (q7, .inl (y 0, 24, .inl (fun _ => 0)))] := hD
  refine lv_aload_n hx hb dX3_init_12 rfl (lv_at hl 0 rfl) ?_
  refine lv_bipush (v := 24) hx hb dX3_init_13 (by decide) ?_
  refine nw_a (atype := .int) hx hb (hts (.arrayClass .int) (List.mem_of_getElem? (i := 4) rfl)) rfl hK hP hD hS hA (a0 := (24, .inl (fun _ => 0))) (N' := 24) (fun _ => rfl) (by decide) (by decide) (Nat.le_of_ble_eq_true rfl) (Nat.le_of_ble_eq_true rfl) (Nat.le_of_ble_eq_true rfl) dX3_init_15 0 rfl (fun q15 H hP hD hS => ?_)
  have hP : va_P D vwCl [(a_t, .inr (7, [.ref q7, .null, .null, .null, .int 0, .int 0])), (q7, .inl (y 0, 24, .inl (fun _ => 0))), (q15, .inl (y 0, 24, .inl (fun _ => 0)))] H := hP
  have hD : va_D A [(a_t, .inr (7, [.ref q7, .null, .null, .null, .int 0, .int 0])), (q7, .inl (y 0, 24, .inl (fun _ => 0))), (q15, .inl (y 0, 24, .inl (fun _ => 0)))] := hD
  refine va_putF (D := D) (ci := 7) (v := .ref q15) (ty := .array .int) (C := RX3) (T := TX3) (N := 6) hx hb hts iX3_init_X3 tyX3 tyX3_ok nmX3 hown hK hP hD hS 0 rfl rfl 1 (by decide) (hts (.fieldLink RX3 15 "SkipArchive$Ladder" "weights" "[I") (List.mem_of_getElem? (i := 6) rfl)) (fun _ h9 => h9) rfl hin rfl (by decide +kernel) rfl rfl (Nat.le_of_ble_eq_true rfl) dX3_init_17 (fun H locs hP hD hS => ?_)
  have hP : va_P D vwCl [(a_t, .inr (7, [.ref q7, .ref q15, .null, .null, .int 0, .int 0])), (q7, .inl (y 0, 24, .inl (fun _ => 0))), (q15, .inl (y 0, 24, .inl (fun _ => 0)))] H := hP
  have hD : va_D A [(a_t, .inr (7, [.ref q7, .ref q15, .null, .null, .int 0, .int 0])), (q7, .inl (y 0, 24, .inl (fun _ => 0))), (q15, .inl (y 0, 24, .inl (fun _ => 0)))] := hD
  refine lv_aload_n hx hb dX3_init_20 rfl (lv_at hl 0 rfl) ?_
  refine lv_bipush (v := 24) hx hb dX3_init_21 (by decide) ?_
  refine nw_a (atype := .int) hx hb (hts (.arrayClass .int) (List.mem_of_getElem? (i := 4) rfl)) rfl hK hP hD hS hA (a0 := (24, .inl (fun _ => 0))) (N' := 24) (fun _ => rfl) (by decide) (by decide) (Nat.le_of_ble_eq_true rfl) (Nat.le_of_ble_eq_true rfl) (Nat.le_of_ble_eq_true rfl) dX3_init_23 0 rfl (fun q23 H hP hD hS => ?_)
  have hP : va_P D vwCl [(a_t, .inr (7, [.ref q7, .ref q15, .null, .null, .int 0, .int 0])), (q7, .inl (y 0, 24, .inl (fun _ => 0))), (q15, .inl (y 0, 24, .inl (fun _ => 0))), (q23, .inl (y 0, 24, .inl (fun _ => 0)))] H := hP
  have hD : va_D A [(a_t, .inr (7, [.ref q7, .ref q15, .null, .null, .int 0, .int 0])), (q7, .inl (y 0, 24, .inl (fun _ => 0))), (q15, .inl (y 0, 24, .inl (fun _ => 0))), (q23, .inl (y 0, 24, .inl (fun _ => 0)))] := hD
  refine va_putF (D := D) (ci := 7) (v := .ref q23) (ty := .array .int) (C := RX3) (T := TX3) (N := 6) hx hb hts iX3_init_X3 tyX3 tyX3_ok nmX3 hown hK hP hD hS 0 rfl rfl 2 (by decide) (hts (.fieldLink RX3 18 "SkipArchive$Ladder" "towers" "[I") (List.mem_of_getElem? (i := 7) rfl)) (fun _ h9 => h9) rfl hin rfl (by decide +kernel) rfl rfl (Nat.le_of_ble_eq_true rfl) dX3_init_25 (fun H locs hP hD hS => ?_)
  have hP : va_P D vwCl [(a_t, .inr (7, [.ref q7, .ref q15, .ref q23, .null, .int 0, .int 0])), (q7, .inl (y 0, 24, .inl (fun _ => 0))), (q15, .inl (y 0, 24, .inl (fun _ => 0))), (q23, .inl (y 0, 24, .inl (fun _ => 0)))] H := hP
  have hD : va_D A [(a_t, .inr (7, [.ref q7, .ref q15, .ref q23, .null, .int 0, .int 0])), (q7, .inl (y 0, 24, .inl (fun _ => 0))), (q15, .inl (y 0, 24, .inl (fun _ => 0))), (q23, .inl (y 0, 24, .inl (fun _ => 0)))] := hD
  refine lv_aload_n hx hb dX3_init_28 rfl (lv_at hl 0 rfl) ?_
  refine va_new (ci := 5) (fs := [.int 0, .int 0, .int 0]) (C := RX1) (T := TX1) (N := 3) hx hb hts iX3_init_X1 tyX1 tyX1_ok hown (hts (.classLink RX3 21 RX1) (List.mem_of_getElem? (i := 8) rfl)) (hts (.instantiable RX1 3) (List.mem_of_getElem? (i := 9) rfl)) (hts (.initialized RX1) (List.mem_of_getElem? (i := 10) rfl)) hK hP hD hS hA rfl (fun j hj => by rcases (show j = 0 ∨ j = 1 ∨ j = 2 by omega) with rfl | rfl | rfl <;> rfl) (Nat.le_of_ble_eq_true rfl) (Nat.le_of_ble_eq_true rfl) dX3_init_29 (fun q29_0 H hP hD hS => ?_)
  have hP : va_P D vwCl [(a_t, .inr (7, [.ref q7, .ref q15, .ref q23, .null, .int 0, .int 0])), (q7, .inl (y 0, 24, .inl (fun _ => 0))), (q15, .inl (y 0, 24, .inl (fun _ => 0))), (q23, .inl (y 0, 24, .inl (fun _ => 0))), (q29_0, .inr (5, [.int 0, .int 0, .int 0]))] H := hP
  have hD : va_D A [(a_t, .inr (7, [.ref q7, .ref q15, .ref q23, .null, .int 0, .int 0])), (q7, .inl (y 0, 24, .inl (fun _ => 0))), (q15, .inl (y 0, 24, .inl (fun _ => 0))), (q23, .inl (y 0, 24, .inl (fun _ => 0))), (q29_0, .inr (5, [.int 0, .int 0, .int 0]))] := hD
  refine lv_dup hx hb dX3_init_32 rfl ?_
  refine ci_I (As := []) (rest := [.ref q29_0, .ref a_t]) (wr := [(a_t, .inr (7, [.ref q7, .ref q15, .ref q23, .null, .int 0, .int 0])), (q7, .inl (y 0, 24, .inl (fun _ => 0))), (q15, .inl (y 0, 24, .inl (fun _ => 0))), (q23, .inl (y 0, 24, .inl (fun _ => 0)))]) ⟨hx, hb, hml, hown, hts⟩ (c_X1_init l D y H.size q29_0) (cwI 0 hts gX3_init_X1_init rfl rfl rfl (hts (.initialized RX1) (List.mem_of_getElem? (i := 10) rfl)) (hts (.methodLink RX3 23 yX1_init) (List.mem_of_getElem? (i := 14) rfl)) (hts (.instanceMethod yX1_init) (List.mem_of_getElem? (i := 15) rfl)) rfl (by decide +kernel) ⟨(Nat.le_of_ble_eq_true rfl), (Nat.le_of_ble_eq_true rfl)⟩) hK hP hD hS hA [4] [0, 1, 2, 3] rfl rfl rfl rfl (by decide) rfl hl.1 rfl (Nat.le_of_ble_eq_true rfl) dX3_init_33 ⟨(Nat.le_of_ble_eq_true rfl), (Nat.le_of_ble_eq_true rfl)⟩ (fun u33_1 H locs hP hD hS => ?_)
  have hP : va_P D vwCl [(a_t, .inr (7, [.ref q7, .ref q15, .ref q23, .null, .int 0, .int 0])), (q7, .inl (y 0, 24, .inl (fun _ => 0))), (q15, .inl (y 0, 24, .inl (fun _ => 0))), (q23, .inl (y 0, 24, .inl (fun _ => 0))), (q29_0, .inr (5, [.int (1 : Int32), .int (0 : Int32), .int (0 : Int32)]))] H := hP
  have hD : va_D A [(a_t, .inr (7, [.ref q7, .ref q15, .ref q23, .null, .int 0, .int 0])), (q7, .inl (y 0, 24, .inl (fun _ => 0))), (q15, .inl (y 0, 24, .inl (fun _ => 0))), (q23, .inl (y 0, 24, .inl (fun _ => 0))), (q29_0, .inr (5, [.int (1 : Int32), .int (0 : Int32), .int (0 : Int32)]))] := hD
  refine va_putF (D := D) (ci := 7) (v := .ref q29_0) (ty := .object "SkipArchive$Coin") (C := RX3) (T := TX3) (N := 6) hx hb hts iX3_init_X3 tyX3 tyX3_ok nmX3 hown hK hP hD hS 0 rfl rfl 3 (by decide) (hts (.fieldLink RX3 24 "SkipArchive$Ladder" "coin" "LSkipArchive$Coin;") (List.mem_of_getElem? (i := 11) rfl)) (fun _ h9 => h9) rfl hin rfl (by decide +kernel) rfl rfl (Nat.le_of_ble_eq_true rfl) dX3_init_36 (fun H locs hP hD hS => ?_)
  have hP : va_P D vwCl [(a_t, .inr (7, [.ref q7, .ref q15, .ref q23, .ref q29_0, .int 0, .int 0])), (q7, .inl (y 0, 24, .inl (fun _ => 0))), (q15, .inl (y 0, 24, .inl (fun _ => 0))), (q23, .inl (y 0, 24, .inl (fun _ => 0))), (q29_0, .inr (5, [.int (1 : Int32), .int (0 : Int32), .int (0 : Int32)]))] H := hP
  have hD : va_D A [(a_t, .inr (7, [.ref q7, .ref q15, .ref q23, .ref q29_0, .int 0, .int 0])), (q7, .inl (y 0, 24, .inl (fun _ => 0))), (q15, .inl (y 0, 24, .inl (fun _ => 0))), (q23, .inl (y 0, 24, .inl (fun _ => 0))), (q29_0, .inr (5, [.int (1 : Int32), .int (0 : Int32), .int (0 : Int32)]))] := hD
  refine lv_aload_n hx hb dX3_init_39 rfl (lv_at hl 0 rfl) ?_
  refine lv_iconst (v := 0) hx hb dX3_init_40 (by decide) ?_
  refine va_put (D := D) (ci := 7) (v := .int (0 : Int32)) (ty := .int) (C := RX3) (T := TX3) (N := 6) hx hb hts iX3_init_X3 tyX3 tyX3_ok nmX3 hown hK hP hD hS 0 rfl rfl 4 (by decide) (hts (.fieldLink RX3 28 "SkipArchive$Ladder" "size" "I") (List.mem_of_getElem? (i := 12) rfl)) (fun _ h9 => h9) rfl (by decide +kernel) rfl rfl (Nat.le_of_ble_eq_true rfl) dX3_init_41 (fun H locs hP hD hS => ?_)
  have hP : va_P D vwCl [(a_t, .inr (7, [.ref q7, .ref q15, .ref q23, .ref q29_0, .int (0 : Int32), .int 0])), (q7, .inl (y 0, 24, .inl (fun _ => 0))), (q15, .inl (y 0, 24, .inl (fun _ => 0))), (q23, .inl (y 0, 24, .inl (fun _ => 0))), (q29_0, .inr (5, [.int (1 : Int32), .int (0 : Int32), .int (0 : Int32)]))] H := hP
  have hD : va_D A [(a_t, .inr (7, [.ref q7, .ref q15, .ref q23, .ref q29_0, .int (0 : Int32), .int 0])), (q7, .inl (y 0, 24, .inl (fun _ => 0))), (q15, .inl (y 0, 24, .inl (fun _ => 0))), (q23, .inl (y 0, 24, .inl (fun _ => 0))), (q29_0, .inr (5, [.int (1 : Int32), .int (0 : Int32), .int (0 : Int32)]))] := hD
  refine lv_aload_n hx hb dX3_init_44 rfl (lv_at hl 0 rfl) ?_
  refine lv_iconst (v := 0) hx hb dX3_init_45 (by decide) ?_
  refine va_put (D := D) (ci := 7) (v := .int (0 : Int32)) (ty := .int) (C := RX3) (T := TX3) (N := 6) hx hb hts iX3_init_X3 tyX3 tyX3_ok nmX3 hown hK hP hD hS 0 rfl rfl 5 (by decide) (hts (.fieldLink RX3 32 "SkipArchive$Ladder" "hidden" "I") (List.mem_of_getElem? (i := 13) rfl)) (fun _ h9 => h9) rfl (by decide +kernel) rfl rfl (Nat.le_of_ble_eq_true rfl) dX3_init_46 (fun H locs hP hD hS => ?_)
  have hP : va_P D vwCl [(a_t, .inr (7, [.ref q7, .ref q15, .ref q23, .ref q29_0, .int (0 : Int32), .int (0 : Int32)])), (q7, .inl (y 0, 24, .inl (fun _ => 0))), (q15, .inl (y 0, 24, .inl (fun _ => 0))), (q23, .inl (y 0, 24, .inl (fun _ => 0))), (q29_0, .inr (5, [.int (1 : Int32), .int (0 : Int32), .int (0 : Int32)]))] H := hP
  have hD : va_D A [(a_t, .inr (7, [.ref q7, .ref q15, .ref q23, .ref q29_0, .int (0 : Int32), .int (0 : Int32)])), (q7, .inl (y 0, 24, .inl (fun _ => 0))), (q15, .inl (y 0, 24, .inl (fun _ => 0))), (q23, .inl (y 0, 24, .inl (fun _ => 0))), (q29_0, .inr (5, [.int (1 : Int32), .int (0 : Int32), .int (0 : Int32)]))] := hD
  rw [hQ0]
  refine W.widen (k := 4) (n := 75) (Nat.le_of_ble_eq_true rfl) (Nat.le_of_ble_eq_true rfl) ?_
  exact ret_n (pk_ [q7, q15, q23, q29_0]) hx hb hr hlocks hAe hK hP hD hS [0, 1, 2, 3, 4] rfl rfl dX3_init_49
theorem iX4_init_X4 : ∀ w ∈ u_ws RX4 TX4 4, w ∈ wsX4_init := fun w h => List.mem_cons_of_mem _ (List.mem_append_right _ h)
def w1_X4_init (y : Nat → ClassId) (a_t : Nat) (u : Nat → Nat) : va_W := [(a_t, .inr (8, [.int (116 : Int32), .int (0 : Int32), .int (0 : Int32), .int (1 : Int32)]))]
set_option maxHeartbeats 4000000 in
set_option maxRecDepth 100000 in
theorem c_X4_init (l : Launch) (D : va_G) (y : Nat → ClassId) (sz : Nat) (a_t : Nat) : Met l yX4_init wsX4_init (rmx 1 40 0 0) (wrP D y [(a_t, .inr (8, [.int 0, .int 0, .int 0, .int 0]))] sz [.ref a_t]) (wQn D y (w1_X4_init y a_t) [(a_t, .inr (8, [.int 0, .int 0, .int 0, .int 0]))] sz) 0 0 (va_A [(a_t, .inr (8, [.int 0, .int 0, .int 0, .int 0]))] sz) := by
  refine Met.ofW (cc := cX4_init) (maxL := 1) (ret := none) (by decide) rfl ?_
  intro p e s m args below meth c s₁ B hml hv
  obtain ⟨hav, hsz, hP, hK, hD0⟩ := hv
  have hx := B.exec
  have hb := B.bytes
  have hr := B.returns
  have hts := atoms_spec (ws := wsX4_init) B.pre
  have hown : s.vm.findClass RX4 = some m.cls := findClass_of_methodNamed B.named
  have hlocks := B.notSynchronized
  have hin : meth.name = "<init>" := (name_of_methodNamed B.named B.method).1
  subst hsz
  have hD := hD0.self (sz := s.heap.size)
  obtain ⟨A, hAe⟩ : ∃ A : Nat → Prop, va_A [(a_t, .inr (8, [.int 0, .int 0, .int 0, .int 0]))] s.heap.size = A := ⟨_, rfl⟩
  rw [hAe] at hD
  have hA : ∀ q, s.heap.size ≤ q → A q := fun q h => by rw [← hAe]; exact Or.inr h
  have hS : va_S A s.heap s.heap [] := va_S.rf
  refine W_q (R1 := (rmx 1 40 0 0)) rfl (fun Q0 hQ0 => ?_)
  refine W_entry hav (Nat.le_of_ble_eq_true rfl) (fun ls hl => ?_)
  have hl : lv_has ls 1 [(0, .ref a_t)] := hl
  refine lv_aload_n hx hb dX4_init_0 rfl (lv_at hl 0 rfl) ?_
  refine W.objInit hx hb hown (hts (.methodLink RX4 3 objectInit) (List.mem_of_getElem? (i := 1) rfl)) (hts (.instanceMethod objectInit) (List.mem_of_getElem? (i := 2) rfl)) (hts (.code objectInit ⟨#[0xb1]⟩ 1 none) (List.mem_of_getElem? (i := 3) rfl)) rfl (by rw [hml]; exact hl.1) rfl dX4_init_1 (Nat.le_of_ble_eq_true rfl) (Nat.le_of_ble_eq_true rfl) ?_
  refine W.eq (g2 := F0 m 4 ls []) rfl ?_
  refine lv_aload_n hx hb dX4_init_4 rfl (lv_at hl 0 rfl) ?_
  refine lv_bipush (v := 116) hx hb dX4_init_5 (by decide) ?_
  refine va_put (D := D) (ci := 8) (v := .int (116 : Int32)) (ty := .char) (C := RX4) (T := TX4) (N := 4) hx hb hts iX4_init_X4 tyX4 tyX4_ok nmX4 hown hK hP hD hS 0 rfl rfl 0 (by decide) (hts (.fieldLink RX4 9 "SkipArchive$Order" "sign" "C") (List.mem_of_getElem? (i := 4) rfl)) (fun _ h9 => h9) rfl (by decide +kernel) (by decide +kernel) (by decide +kernel) (Nat.le_of_ble_eq_true rfl) dX4_init_7 (fun H locs hP hD hS => ?_)
  have hP : va_P D vwCl [(a_t, .inr (8, [.int (116 : Int32), .int 0, .int 0, .int 0]))] H := hP
  have hD : va_D A [(a_t, .inr (8, [.int (116 : Int32), .int 0, .int 0, .int 0]))] := hD
  refine lv_aload_n hx hb dX4_init_10 rfl (lv_at hl 0 rfl) ?_
  refine lv_iconst (v := 0) hx hb dX4_init_11 (by decide) ?_
  refine va_put (D := D) (ci := 8) (v := .int (0 : Int32)) (ty := .int) (C := RX4) (T := TX4) (N := 4) hx hb hts iX4_init_X4 tyX4 tyX4_ok nmX4 hown hK hP hD hS 0 rfl rfl 1 (by decide) (hts (.fieldLink RX4 15 "SkipArchive$Order" "number" "I") (List.mem_of_getElem? (i := 5) rfl)) (fun _ h9 => h9) rfl (by decide +kernel) rfl rfl (Nat.le_of_ble_eq_true rfl) dX4_init_12 (fun H locs hP hD hS => ?_)
  have hP : va_P D vwCl [(a_t, .inr (8, [.int (116 : Int32), .int (0 : Int32), .int 0, .int 0]))] H := hP
  have hD : va_D A [(a_t, .inr (8, [.int (116 : Int32), .int (0 : Int32), .int 0, .int 0]))] := hD
  refine lv_aload_n hx hb dX4_init_15 rfl (lv_at hl 0 rfl) ?_
  refine lv_iconst (v := 0) hx hb dX4_init_16 (by decide) ?_
  refine va_put (D := D) (ci := 8) (v := .int (0 : Int32)) (ty := .int) (C := RX4) (T := TX4) (N := 4) hx hb hts iX4_init_X4 tyX4 tyX4_ok nmX4 hown hK hP hD hS 0 rfl rfl 2 (by decide) (hts (.fieldLink RX4 19 "SkipArchive$Order" "weight" "I") (List.mem_of_getElem? (i := 6) rfl)) (fun _ h9 => h9) rfl (by decide +kernel) rfl rfl (Nat.le_of_ble_eq_true rfl) dX4_init_17 (fun H locs hP hD hS => ?_)
  have hP : va_P D vwCl [(a_t, .inr (8, [.int (116 : Int32), .int (0 : Int32), .int (0 : Int32), .int 0]))] H := hP
  have hD : va_D A [(a_t, .inr (8, [.int (116 : Int32), .int (0 : Int32), .int (0 : Int32), .int 0]))] := hD
  refine lv_aload_n hx hb dX4_init_20 rfl (lv_at hl 0 rfl) ?_
  refine lv_iconst (v := 1) hx hb dX4_init_21 (by decide) ?_
  refine va_put (D := D) (ci := 8) (v := .int (1 : Int32)) (ty := .int) (C := RX4) (T := TX4) (N := 4) hx hb hts iX4_init_X4 tyX4 tyX4_ok nmX4 hown hK hP hD hS 0 rfl rfl 3 (by decide) (hts (.fieldLink RX4 22 "SkipArchive$Order" "rungs" "I") (List.mem_of_getElem? (i := 7) rfl)) (fun _ h9 => h9) rfl (by decide +kernel) rfl rfl (Nat.le_of_ble_eq_true rfl) dX4_init_22 (fun H locs hP hD hS => ?_)
  have hP : va_P D vwCl [(a_t, .inr (8, [.int (116 : Int32), .int (0 : Int32), .int (0 : Int32), .int (1 : Int32)]))] H := hP
  have hD : va_D A [(a_t, .inr (8, [.int (116 : Int32), .int (0 : Int32), .int (0 : Int32), .int (1 : Int32)]))] := hD
  rw [hQ0]
  refine W.widen (k := 0) (n := 0) (Nat.le_of_ble_eq_true rfl) (Nat.le_of_ble_eq_true rfl) ?_
  exact ret_n (pk_ []) hx hb hr hlocks hAe hK hP hD hS [0] rfl rfl dX4_init_25
theorem iX5_init_X5 : ∀ w ∈ u_ws RX5 TX5 4, w ∈ wsX5_init := fun w h => List.mem_cons_of_mem _ (List.mem_append_right _ h)
def w1_X5_init (y : Nat → ClassId) (a_t : Nat) (u : Nat → Nat) : va_W := [(a_t, .inr (9, [.ref (u 0), .int (0 : Int32), .int (0 : Int32), .int (0 : Int32)])), ((u 0), .inl (y 1, 60, .inl (fun _ => 0)))]
set_option maxHeartbeats 4000000 in
set_option maxRecDepth 100000 in
theorem c_X5_init (l : Launch) (D : va_G) (y : Nat → ClassId) (sz : Nat) (a_t : Nat) : Met l yX5_init wsX5_init (rmx 1 40 1 60) (wrP D y [(a_t, .inr (9, [.null, .int 0, .int 0, .int 0]))] sz [.ref a_t]) (wQn D y (w1_X5_init y a_t) [(a_t, .inr (9, [.null, .int 0, .int 0, .int 0]))] sz) 1 60 (va_A [(a_t, .inr (9, [.null, .int 0, .int 0, .int 0]))] sz) := by
  refine Met.ofW (cc := cX5_init) (maxL := 1) (ret := none) (by decide) rfl ?_
  intro p e s m args below meth c s₁ B hml hv
  obtain ⟨hav, hsz, hP, hK, hD0⟩ := hv
  have hx := B.exec
  have hb := B.bytes
  have hr := B.returns
  have hts := atoms_spec (ws := wsX5_init) B.pre
  have hown : s.vm.findClass RX5 = some m.cls := findClass_of_methodNamed B.named
  have hlocks := B.notSynchronized
  have hin : meth.name = "<init>" := (name_of_methodNamed B.named B.method).1
  subst hsz
  have hD := hD0.self (sz := s.heap.size)
  obtain ⟨A, hAe⟩ : ∃ A : Nat → Prop, va_A [(a_t, .inr (9, [.null, .int 0, .int 0, .int 0]))] s.heap.size = A := ⟨_, rfl⟩
  rw [hAe] at hD
  have hA : ∀ q, s.heap.size ≤ q → A q := fun q h => by rw [← hAe]; exact Or.inr h
  have hS : va_S A s.heap s.heap [] := va_S.rf
  refine W_q (R1 := (rmx 1 40 1 60)) rfl (fun Q0 hQ0 => ?_)
  refine W_entry hav (Nat.le_of_ble_eq_true rfl) (fun ls hl => ?_)
  have hl : lv_has ls 1 [(0, .ref a_t)] := hl
  refine lv_aload_n hx hb dX5_init_0 rfl (lv_at hl 0 rfl) ?_
  refine W.objInit hx hb hown (hts (.methodLink RX5 3 objectInit) (List.mem_of_getElem? (i := 1) rfl)) (hts (.instanceMethod objectInit) (List.mem_of_getElem? (i := 2) rfl)) (hts (.code objectInit ⟨#[0xb1]⟩ 1 none) (List.mem_of_getElem? (i := 3) rfl)) rfl (by rw [hml]; exact hl.1) rfl dX5_init_1 (Nat.le_of_ble_eq_true rfl) (Nat.le_of_ble_eq_true rfl) ?_
  refine W.eq (g2 := F0 m 4 ls []) rfl ?_
  refine lv_aload_n hx hb dX5_init_4 rfl (lv_at hl 0 rfl) ?_
  refine lv_bipush (v := 60) hx hb dX5_init_5 (by decide) ?_
  refine nw_a (atype := .char) hx hb (hts (.arrayClass .char) (List.mem_of_getElem? (i := 4) rfl)) rfl hK hP hD hS hA (a0 := (60, .inl (fun _ => 0))) (N' := 60) (fun _ => rfl) (by decide) (by decide) (Nat.le_of_ble_eq_true rfl) (Nat.le_of_ble_eq_true rfl) (Nat.le_of_ble_eq_true rfl) dX5_init_7 1 rfl (fun q7 H hP hD hS => ?_)
  have hP : va_P D vwCl [(a_t, .inr (9, [.null, .int 0, .int 0, .int 0])), (q7, .inl (y 1, 60, .inl (fun _ => 0)))] H := hP
  have hD : va_D A [(a_t, .inr (9, [.null, .int 0, .int 0, .int 0])), (q7, .inl (y 1, 60, .inl (fun _ => 0)))] := hD
  refine va_putF (D := D) (ci := 9) (v := .ref q7) (ty := .array .char) (C := RX5) (T := TX5) (N := 4) hx hb hts iX5_init_X5 tyX5 tyX5_ok nmX5 hown hK hP hD hS 0 rfl rfl 0 (by decide) (hts (.fieldLink RX5 9 "SkipArchive$Reader" "text" "[C") (List.mem_of_getElem? (i := 5) rfl)) (fun _ h9 => h9) rfl hin rfl (by decide +kernel) rfl rfl (Nat.le_of_ble_eq_true rfl) dX5_init_9 (fun H locs hP hD hS => ?_)
  have hP : va_P D vwCl [(a_t, .inr (9, [.ref q7, .int 0, .int 0, .int 0])), (q7, .inl (y 1, 60, .inl (fun _ => 0)))] H := hP
  have hD : va_D A [(a_t, .inr (9, [.ref q7, .int 0, .int 0, .int 0])), (q7, .inl (y 1, 60, .inl (fun _ => 0)))] := hD
  refine lv_aload_n hx hb dX5_init_12 rfl (lv_at hl 0 rfl) ?_
  refine lv_iconst (v := 0) hx hb dX5_init_13 (by decide) ?_
  refine va_put (D := D) (ci := 9) (v := .int (0 : Int32)) (ty := .int) (C := RX5) (T := TX5) (N := 4) hx hb hts iX5_init_X5 tyX5 tyX5_ok nmX5 hown hK hP hD hS 0 rfl rfl 1 (by decide) (hts (.fieldLink RX5 15 "SkipArchive$Reader" "length" "I") (List.mem_of_getElem? (i := 6) rfl)) (fun _ h9 => h9) rfl (by decide +kernel) rfl rfl (Nat.le_of_ble_eq_true rfl) dX5_init_14 (fun H locs hP hD hS => ?_)
  have hP : va_P D vwCl [(a_t, .inr (9, [.ref q7, .int (0 : Int32), .int 0, .int 0])), (q7, .inl (y 1, 60, .inl (fun _ => 0)))] H := hP
  have hD : va_D A [(a_t, .inr (9, [.ref q7, .int (0 : Int32), .int 0, .int 0])), (q7, .inl (y 1, 60, .inl (fun _ => 0)))] := hD
  refine lv_aload_n hx hb dX5_init_17 rfl (lv_at hl 0 rfl) ?_
  refine lv_iconst (v := 0) hx hb dX5_init_18 (by decide) ?_
  refine va_put (D := D) (ci := 9) (v := .int (0 : Int32)) (ty := .int) (C := RX5) (T := TX5) (N := 4) hx hb hts iX5_init_X5 tyX5 tyX5_ok nmX5 hown hK hP hD hS 0 rfl rfl 2 (by decide) (hts (.fieldLink RX5 19 "SkipArchive$Reader" "at" "I") (List.mem_of_getElem? (i := 7) rfl)) (fun _ h9 => h9) rfl (by decide +kernel) rfl rfl (Nat.le_of_ble_eq_true rfl) dX5_init_19 (fun H locs hP hD hS => ?_)
  have hP : va_P D vwCl [(a_t, .inr (9, [.ref q7, .int (0 : Int32), .int (0 : Int32), .int 0])), (q7, .inl (y 1, 60, .inl (fun _ => 0)))] H := hP
  have hD : va_D A [(a_t, .inr (9, [.ref q7, .int (0 : Int32), .int (0 : Int32), .int 0])), (q7, .inl (y 1, 60, .inl (fun _ => 0)))] := hD
  refine lv_aload_n hx hb dX5_init_22 rfl (lv_at hl 0 rfl) ?_
  refine lv_iconst (v := 0) hx hb dX5_init_23 (by decide) ?_
  refine va_put (D := D) (ci := 9) (v := .int (0 : Int32)) (ty := .boolean) (C := RX5) (T := TX5) (N := 4) hx hb hts iX5_init_X5 tyX5 tyX5_ok nmX5 hown hK hP hD hS 0 rfl rfl 3 (by decide) (hts (.fieldLink RX5 22 "SkipArchive$Reader" "faulty" "Z") (List.mem_of_getElem? (i := 8) rfl)) (fun _ h9 => h9) rfl (by decide +kernel) (by decide +kernel) (by decide +kernel) (Nat.le_of_ble_eq_true rfl) dX5_init_24 (fun H locs hP hD hS => ?_)
  have hP : va_P D vwCl [(a_t, .inr (9, [.ref q7, .int (0 : Int32), .int (0 : Int32), .int (0 : Int32)])), (q7, .inl (y 1, 60, .inl (fun _ => 0)))] H := hP
  have hD : va_D A [(a_t, .inr (9, [.ref q7, .int (0 : Int32), .int (0 : Int32), .int (0 : Int32)])), (q7, .inl (y 1, 60, .inl (fun _ => 0)))] := hD
  rw [hQ0]
  refine W.widen (k := 1) (n := 60) (Nat.le_of_ble_eq_true rfl) (Nat.le_of_ble_eq_true rfl) ?_
  exact ret_n (pk_ [q7]) hx hb hr hlocks hAe hK hP hD hS [0, 1] rfl rfl dX5_init_27
theorem iX6_init_X6 : ∀ w ∈ u_ws RX6 TX6 6, w ∈ wsX6_init := fun w h => List.mem_cons_of_mem _ (List.mem_append_right _ h)
def w1_X6_init (y : Nat → ClassId) (a_t : Nat) (o1 : Nat) (u : Nat → Nat) : va_W := [(a_t, .inr (10, [.ref o1, .int (-1 : Int32), .int (0 : Int32), .int (0 : Int32), .int (0 : Int32), .int (0 : Int32)]))]
set_option maxHeartbeats 4000000 in
set_option maxRecDepth 100000 in
theorem c_X6_init (l : Launch) (D : va_G) (y : Nat → ClassId) (sz : Nat) (a_t : Nat) (o1 : Nat) : Met l yX6_init wsX6_init (rmx 1 40 0 0) (wrP D y [(a_t, .inr (10, [.null, .int 0, .int 0, .int 0, .int 0, .int 0]))] sz [.ref a_t, .ref o1]) (wQn D y (w1_X6_init y a_t o1) [(a_t, .inr (10, [.null, .int 0, .int 0, .int 0, .int 0, .int 0]))] sz) 0 0 (va_A [(a_t, .inr (10, [.null, .int 0, .int 0, .int 0, .int 0, .int 0]))] sz) := by
  refine Met.ofW (cc := cX6_init) (maxL := 2) (ret := none) (by decide) rfl ?_
  intro p e s m args below meth c s₁ B hml hv
  obtain ⟨hav, hsz, hP, hK, hD0⟩ := hv
  have hx := B.exec
  have hb := B.bytes
  have hr := B.returns
  have hts := atoms_spec (ws := wsX6_init) B.pre
  have hown : s.vm.findClass RX6 = some m.cls := findClass_of_methodNamed B.named
  have hlocks := B.notSynchronized
  have hin : meth.name = "<init>" := (name_of_methodNamed B.named B.method).1
  subst hsz
  have hD := hD0.self (sz := s.heap.size)
  obtain ⟨A, hAe⟩ : ∃ A : Nat → Prop, va_A [(a_t, .inr (10, [.null, .int 0, .int 0, .int 0, .int 0, .int 0]))] s.heap.size = A := ⟨_, rfl⟩
  rw [hAe] at hD
  have hA : ∀ q, s.heap.size ≤ q → A q := fun q h => by rw [← hAe]; exact Or.inr h
  have hS : va_S A s.heap s.heap [] := va_S.rf
  refine W_q (R1 := (rmx 1 40 0 0)) rfl (fun Q0 hQ0 => ?_)
  refine W_entry hav (Nat.le_of_ble_eq_true rfl) (fun ls hl => ?_)
  have hl : lv_has ls 2 [(0, .ref a_t), (1, .ref o1)] := hl
  refine lv_aload_n hx hb dX6_init_0 rfl (lv_at hl 0 rfl) ?_
  refine W.objInit hx hb hown (hts (.methodLink RX6 3 objectInit) (List.mem_of_getElem? (i := 1) rfl)) (hts (.instanceMethod objectInit) (List.mem_of_getElem? (i := 2) rfl)) (hts (.code objectInit ⟨#[0xb1]⟩ 1 none) (List.mem_of_getElem? (i := 3) rfl)) rfl (by rw [hml]; exact hl.1) rfl dX6_init_1 (Nat.le_of_ble_eq_true rfl) (Nat.le_of_ble_eq_true rfl) ?_
  refine W.eq (g2 := F0 m 4 ls []) rfl ?_
  refine lv_aload_n hx hb dX6_init_4 rfl (lv_at hl 0 rfl) ?_
  refine lv_iconst (v := -1) hx hb dX6_init_5 (by decide) ?_
  refine va_put (D := D) (ci := 10) (v := .int (-1 : Int32)) (ty := .int) (C := RX6) (T := TX6) (N := 6) hx hb hts iX6_init_X6 tyX6 tyX6_ok nmX6 hown hK hP hD hS 0 rfl rfl 1 (by decide) (hts (.fieldLink RX6 9 "SkipArchive$Search" "place" "I") (List.mem_of_getElem? (i := 4) rfl)) (fun _ h9 => h9) rfl (by decide +kernel) rfl rfl (Nat.le_of_ble_eq_true rfl) dX6_init_6 (fun H locs hP hD hS => ?_)
  have hP : va_P D vwCl [(a_t, .inr (10, [.null, .int (-1 : Int32), .int 0, .int 0, .int 0, .int 0]))] H := hP
  have hD : va_D A [(a_t, .inr (10, [.null, .int (-1 : Int32), .int 0, .int 0, .int 0, .int 0]))] := hD
  refine lv_aload_n hx hb dX6_init_9 rfl (lv_at hl 0 rfl) ?_
  refine lv_iconst (v := 0) hx hb dX6_init_10 (by decide) ?_
  refine va_put (D := D) (ci := 10) (v := .int (0 : Int32)) (ty := .int) (C := RX6) (T := TX6) (N := 6) hx hb hts iX6_init_X6 tyX6 tyX6_ok nmX6 hown hK hP hD hS 0 rfl rfl 2 (by decide) (hts (.fieldLink RX6 15 "SkipArchive$Search" "level" "I") (List.mem_of_getElem? (i := 5) rfl)) (fun _ h9 => h9) rfl (by decide +kernel) rfl rfl (Nat.le_of_ble_eq_true rfl) dX6_init_11 (fun H locs hP hD hS => ?_)
  have hP : va_P D vwCl [(a_t, .inr (10, [.null, .int (-1 : Int32), .int (0 : Int32), .int 0, .int 0, .int 0]))] H := hP
  have hD : va_D A [(a_t, .inr (10, [.null, .int (-1 : Int32), .int (0 : Int32), .int 0, .int 0, .int 0]))] := hD
  refine lv_aload_n hx hb dX6_init_14 rfl (lv_at hl 0 rfl) ?_
  refine lv_iconst (v := 0) hx hb dX6_init_15 (by decide) ?_
  refine va_put (D := D) (ci := 10) (v := .int (0 : Int32)) (ty := .int) (C := RX6) (T := TX6) (N := 6) hx hb hts iX6_init_X6 tyX6 tyX6_ok nmX6 hown hK hP hD hS 0 rfl rfl 3 (by decide) (hts (.fieldLink RX6 18 "SkipArchive$Search" "gone" "I") (List.mem_of_getElem? (i := 6) rfl)) (fun _ h9 => h9) rfl (by decide +kernel) rfl rfl (Nat.le_of_ble_eq_true rfl) dX6_init_16 (fun H locs hP hD hS => ?_)
  have hP : va_P D vwCl [(a_t, .inr (10, [.null, .int (-1 : Int32), .int (0 : Int32), .int (0 : Int32), .int 0, .int 0]))] H := hP
  have hD : va_D A [(a_t, .inr (10, [.null, .int (-1 : Int32), .int (0 : Int32), .int (0 : Int32), .int 0, .int 0]))] := hD
  refine lv_aload_n hx hb dX6_init_19 rfl (lv_at hl 0 rfl) ?_
  refine lv_iconst (v := 0) hx hb dX6_init_20 (by decide) ?_
  refine va_put (D := D) (ci := 10) (v := .int (0 : Int32)) (ty := .int) (C := RX6) (T := TX6) (N := 6) hx hb hts iX6_init_X6 tyX6 tyX6_ok nmX6 hown hK hP hD hS 0 rfl rfl 4 (by decide) (hts (.fieldLink RX6 21 "SkipArchive$Search" "fallen" "I") (List.mem_of_getElem? (i := 7) rfl)) (fun _ h9 => h9) rfl (by decide +kernel) rfl rfl (Nat.le_of_ble_eq_true rfl) dX6_init_21 (fun H locs hP hD hS => ?_)
  have hP : va_P D vwCl [(a_t, .inr (10, [.null, .int (-1 : Int32), .int (0 : Int32), .int (0 : Int32), .int (0 : Int32), .int 0]))] H := hP
  have hD : va_D A [(a_t, .inr (10, [.null, .int (-1 : Int32), .int (0 : Int32), .int (0 : Int32), .int (0 : Int32), .int 0]))] := hD
  refine lv_aload_n hx hb dX6_init_24 rfl (lv_at hl 0 rfl) ?_
  refine lv_iconst (v := 0) hx hb dX6_init_25 (by decide) ?_
  refine va_put (D := D) (ci := 10) (v := .int (0 : Int32)) (ty := .int) (C := RX6) (T := TX6) (N := 6) hx hb hts iX6_init_X6 tyX6 tyX6_ok nmX6 hown hK hP hD hS 0 rfl rfl 5 (by decide) (hts (.fieldLink RX6 24 "SkipArchive$Search" "spanned" "I") (List.mem_of_getElem? (i := 8) rfl)) (fun _ h9 => h9) rfl (by decide +kernel) rfl rfl (Nat.le_of_ble_eq_true rfl) dX6_init_26 (fun H locs hP hD hS => ?_)
  have hP : va_P D vwCl [(a_t, .inr (10, [.null, .int (-1 : Int32), .int (0 : Int32), .int (0 : Int32), .int (0 : Int32), .int (0 : Int32)]))] H := hP
  have hD : va_D A [(a_t, .inr (10, [.null, .int (-1 : Int32), .int (0 : Int32), .int (0 : Int32), .int (0 : Int32), .int (0 : Int32)]))] := hD
  refine lv_aload_n hx hb dX6_init_29 rfl (lv_at hl 0 rfl) ?_
  refine lv_aload_n hx hb dX6_init_30 rfl (lv_at hl 1 rfl) ?_
  refine va_putF (D := D) (ci := 10) (v := .ref o1) (ty := .object "SkipArchive$Ladder") (C := RX6) (T := TX6) (N := 6) hx hb hts iX6_init_X6 tyX6 tyX6_ok nmX6 hown hK hP hD hS 0 rfl rfl 0 (by decide) (hts (.fieldLink RX6 27 "SkipArchive$Search" "ladder" "LSkipArchive$Ladder;") (List.mem_of_getElem? (i := 9) rfl)) (fun _ h9 => h9) rfl hin rfl (by decide +kernel) rfl rfl (Nat.le_of_ble_eq_true rfl) dX6_init_31 (fun H locs hP hD hS => ?_)
  have hP : va_P D vwCl [(a_t, .inr (10, [.ref o1, .int (-1 : Int32), .int (0 : Int32), .int (0 : Int32), .int (0 : Int32), .int (0 : Int32)]))] H := hP
  have hD : va_D A [(a_t, .inr (10, [.ref o1, .int (-1 : Int32), .int (0 : Int32), .int (0 : Int32), .int (0 : Int32), .int (0 : Int32)]))] := hD
  rw [hQ0]
  refine W.widen (k := 0) (n := 0) (Nat.le_of_ble_eq_true rfl) (Nat.le_of_ble_eq_true rfl) ?_
  exact ret_n (pk_ []) hx hb hr hlocks hAe hK hP hD hS [0] rfl rfl dX6_init_34
theorem iX0_init_X0 : ∀ w ∈ u_ws RX0 TX0 5, w ∈ wsX0_init := fun w h => List.mem_cons_of_mem _ (List.mem_append_right _ h)
def w1_X0_init (y : Nat → ClassId) (a_t : Nat) (o1 : Nat) (u : Nat → Nat) : va_W := [(a_t, .inr (4, [.ref o1, .int (0 : Int32), .int (0 : Int32), .int (0 : Int32), .int (0 : Int32)]))]
set_option maxHeartbeats 4000000 in
set_option maxRecDepth 100000 in
theorem c_X0_init (l : Launch) (D : va_G) (y : Nat → ClassId) (sz : Nat) (a_t : Nat) (o1 : Nat) : Met l yX0_init wsX0_init (rmx 1 40 0 0) (wrP D y [(a_t, .inr (4, [.null, .int 0, .int 0, .int 0, .int 0]))] sz [.ref a_t, .ref o1]) (wQn D y (w1_X0_init y a_t o1) [(a_t, .inr (4, [.null, .int 0, .int 0, .int 0, .int 0]))] sz) 0 0 (va_A [(a_t, .inr (4, [.null, .int 0, .int 0, .int 0, .int 0]))] sz) := by
  refine Met.ofW (cc := cX0_init) (maxL := 2) (ret := none) (by decide) rfl ?_
  intro p e s m args below meth c s₁ B hml hv
  obtain ⟨hav, hsz, hP, hK, hD0⟩ := hv
  have hx := B.exec
  have hb := B.bytes
  have hr := B.returns
  have hts := atoms_spec (ws := wsX0_init) B.pre
  have hown : s.vm.findClass RX0 = some m.cls := findClass_of_methodNamed B.named
  have hlocks := B.notSynchronized
  have hin : meth.name = "<init>" := (name_of_methodNamed B.named B.method).1
  subst hsz
  have hD := hD0.self (sz := s.heap.size)
  obtain ⟨A, hAe⟩ : ∃ A : Nat → Prop, va_A [(a_t, .inr (4, [.null, .int 0, .int 0, .int 0, .int 0]))] s.heap.size = A := ⟨_, rfl⟩
  rw [hAe] at hD
  have hA : ∀ q, s.heap.size ≤ q → A q := fun q h => by rw [← hAe]; exact Or.inr h
  have hS : va_S A s.heap s.heap [] := va_S.rf
  refine W_q (R1 := (rmx 1 40 0 0)) rfl (fun Q0 hQ0 => ?_)
  refine W_entry hav (Nat.le_of_ble_eq_true rfl) (fun ls hl => ?_)
  have hl : lv_has ls 2 [(0, .ref a_t), (1, .ref o1)] := hl
  refine lv_aload_n hx hb dX0_init_0 rfl (lv_at hl 0 rfl) ?_
  refine W.objInit hx hb hown (hts (.methodLink RX0 3 objectInit) (List.mem_of_getElem? (i := 1) rfl)) (hts (.instanceMethod objectInit) (List.mem_of_getElem? (i := 2) rfl)) (hts (.code objectInit ⟨#[0xb1]⟩ 1 none) (List.mem_of_getElem? (i := 3) rfl)) rfl (by rw [hml]; exact hl.1) rfl dX0_init_1 (Nat.le_of_ble_eq_true rfl) (Nat.le_of_ble_eq_true rfl) ?_
  refine W.eq (g2 := F0 m 4 ls []) rfl ?_
  refine lv_aload_n hx hb dX0_init_4 rfl (lv_at hl 0 rfl) ?_
  refine lv_iconst (v := 0) hx hb dX0_init_5 (by decide) ?_
  refine va_put (D := D) (ci := 4) (v := .int (0 : Int32)) (ty := .int) (C := RX0) (T := TX0) (N := 5) hx hb hts iX0_init_X0 tyX0 tyX0_ok nmX0 hown hK hP hD hS 0 rfl rfl 1 (by decide) (hts (.fieldLink RX0 9 "SkipArchive$Clerk" "detail" "I") (List.mem_of_getElem? (i := 4) rfl)) (fun _ h9 => h9) rfl (by decide +kernel) rfl rfl (Nat.le_of_ble_eq_true rfl) dX0_init_6 (fun H locs hP hD hS => ?_)
  have hP : va_P D vwCl [(a_t, .inr (4, [.null, .int (0 : Int32), .int 0, .int 0, .int 0]))] H := hP
  have hD : va_D A [(a_t, .inr (4, [.null, .int (0 : Int32), .int 0, .int 0, .int 0]))] := hD
  refine lv_aload_n hx hb dX0_init_9 rfl (lv_at hl 0 rfl) ?_
  refine lv_iconst (v := 0) hx hb dX0_init_10 (by decide) ?_
  refine va_put (D := D) (ci := 4) (v := .int (0 : Int32)) (ty := .int) (C := RX0) (T := TX0) (N := 5) hx hb hts iX0_init_X0 tyX0 tyX0_ok nmX0 hown hK hP hD hS 0 rfl rfl 2 (by decide) (hts (.fieldLink RX0 15 "SkipArchive$Clerk" "keptReason" "I") (List.mem_of_getElem? (i := 5) rfl)) (fun _ h9 => h9) rfl (by decide +kernel) rfl rfl (Nat.le_of_ble_eq_true rfl) dX0_init_11 (fun H locs hP hD hS => ?_)
  have hP : va_P D vwCl [(a_t, .inr (4, [.null, .int (0 : Int32), .int (0 : Int32), .int 0, .int 0]))] H := hP
  have hD : va_D A [(a_t, .inr (4, [.null, .int (0 : Int32), .int (0 : Int32), .int 0, .int 0]))] := hD
  refine lv_aload_n hx hb dX0_init_14 rfl (lv_at hl 0 rfl) ?_
  refine lv_iconst (v := 0) hx hb dX0_init_15 (by decide) ?_
  refine va_put (D := D) (ci := 4) (v := .int (0 : Int32)) (ty := .int) (C := RX0) (T := TX0) (N := 5) hx hb hts iX0_init_X0 tyX0 tyX0_ok nmX0 hown hK hP hD hS 0 rfl rfl 3 (by decide) (hts (.fieldLink RX0 18 "SkipArchive$Clerk" "keptDetail" "I") (List.mem_of_getElem? (i := 6) rfl)) (fun _ h9 => h9) rfl (by decide +kernel) rfl rfl (Nat.le_of_ble_eq_true rfl) dX0_init_16 (fun H locs hP hD hS => ?_)
  have hP : va_P D vwCl [(a_t, .inr (4, [.null, .int (0 : Int32), .int (0 : Int32), .int (0 : Int32), .int 0]))] H := hP
  have hD : va_D A [(a_t, .inr (4, [.null, .int (0 : Int32), .int (0 : Int32), .int (0 : Int32), .int 0]))] := hD
  refine lv_aload_n hx hb dX0_init_19 rfl (lv_at hl 0 rfl) ?_
  refine lv_iconst (v := 0) hx hb dX0_init_20 (by decide) ?_
  refine va_put (D := D) (ci := 4) (v := .int (0 : Int32)) (ty := .int) (C := RX0) (T := TX0) (N := 5) hx hb hts iX0_init_X0 tyX0 tyX0_ok nmX0 hown hK hP hD hS 0 rfl rfl 4 (by decide) (hts (.fieldLink RX0 21 "SkipArchive$Clerk" "keptIndex" "I") (List.mem_of_getElem? (i := 7) rfl)) (fun _ h9 => h9) rfl (by decide +kernel) rfl rfl (Nat.le_of_ble_eq_true rfl) dX0_init_21 (fun H locs hP hD hS => ?_)
  have hP : va_P D vwCl [(a_t, .inr (4, [.null, .int (0 : Int32), .int (0 : Int32), .int (0 : Int32), .int (0 : Int32)]))] H := hP
  have hD : va_D A [(a_t, .inr (4, [.null, .int (0 : Int32), .int (0 : Int32), .int (0 : Int32), .int (0 : Int32)]))] := hD
  refine lv_aload_n hx hb dX0_init_24 rfl (lv_at hl 0 rfl) ?_
  refine lv_aload_n hx hb dX0_init_25 rfl (lv_at hl 1 rfl) ?_
  refine va_putF (D := D) (ci := 4) (v := .ref o1) (ty := .object "SkipArchive$Ladder") (C := RX0) (T := TX0) (N := 5) hx hb hts iX0_init_X0 tyX0 tyX0_ok nmX0 hown hK hP hD hS 0 rfl rfl 0 (by decide) (hts (.fieldLink RX0 24 "SkipArchive$Clerk" "ladder" "LSkipArchive$Ladder;") (List.mem_of_getElem? (i := 8) rfl)) (fun _ h9 => h9) rfl hin rfl (by decide +kernel) rfl rfl (Nat.le_of_ble_eq_true rfl) dX0_init_26 (fun H locs hP hD hS => ?_)
  have hP : va_P D vwCl [(a_t, .inr (4, [.ref o1, .int (0 : Int32), .int (0 : Int32), .int (0 : Int32), .int (0 : Int32)]))] H := hP
  have hD : va_D A [(a_t, .inr (4, [.ref o1, .int (0 : Int32), .int (0 : Int32), .int (0 : Int32), .int (0 : Int32)]))] := hD
  rw [hQ0]
  refine W.widen (k := 0) (n := 0) (Nat.le_of_ble_eq_true rfl) (Nat.le_of_ble_eq_true rfl) ?_
  exact ret_n (pk_ []) hx hb hr hlocks hAe hK hP hD hS [0] rfl rfl dX0_init_29
