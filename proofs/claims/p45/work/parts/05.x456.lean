def F_X4_tell (fl : Nat) (t_sign : Int32) (t_number : Int32) (t_weight : Int32) (t_rungs : Int32) (p1 : Int32) (p2 : Int32) (p3 : Int32) (p4 : Int32) : Option (Int32 × Int32 × Int32 × Int32) := gd (okC p1 = true) (some (p1, p2, p3, p4))
theorem iX4_tell_X4 : ∀ w ∈ u_ws RX4 TX4 4, w ∈ wsX4_tell := fun w h => List.mem_cons_of_mem _ (List.mem_append_right _ h)
set_option maxHeartbeats 4000000 in
set_option maxRecDepth 100000 in
theorem c_X4_tell (l : Launch) (D : va_G) (y : Nat → ClassId) (fl : Nat) (sz : Nat) (a_t : Nat) (t_sign : Int32) (t_number : Int32) (t_weight : Int32) (t_rungs : Int32) (p1 : Int32) (p2 : Int32) (p3 : Int32) (p4 : Int32) (t_sign' : Int32) (t_number' : Int32) (t_weight' : Int32) (t_rungs' : Int32) (hF : F_X4_tell fl t_sign t_number t_weight t_rungs p1 p2 p3 p4 = some (t_sign', t_number', t_weight', t_rungs')) : Met l yX4_tell wsX4_tell (rmq 0 0) (wrP D y [(a_t, .inr (8, [.int t_sign, .int t_number, .int t_weight, .int t_rungs]))] sz [.ref a_t, .int p1, .int p2, .int p3, .int p4]) (wQv D y [(a_t, .inr (8, [.int t_sign', .int t_number', .int t_weight', .int t_rungs']))] [(a_t, .inr (8, [.int t_sign, .int t_number, .int t_weight, .int t_rungs]))] sz) 0 0 (va_A [(a_t, .inr (8, [.int t_sign, .int t_number, .int t_weight, .int t_rungs]))] sz) := by
  refine Met.ofW (cc := cX4_tell) (maxL := 5) (ret := none) (by decide) rfl ?_
  intro p e s m args below meth c s₁ B hml hv
  obtain ⟨hav, hsz, hP, hK, hD0⟩ := hv
  have hx := B.exec
  have hb := B.bytes
  have hr := B.returns
  have hts := atoms_spec (ws := wsX4_tell) B.pre
  have hown : s.vm.findClass RX4 = some m.cls := findClass_of_methodNamed B.named
  have hlocks := B.notSynchronized
  subst hsz
  have hD := hD0.self (sz := s.heap.size)
  obtain ⟨A, hAe⟩ : ∃ A : Nat → Prop, va_A [(a_t, .inr (8, [.int t_sign, .int t_number, .int t_weight, .int t_rungs]))] s.heap.size = A := ⟨_, rfl⟩
  rw [hAe] at hD
  have hA : ∀ q, s.heap.size ≤ q → A q := fun q h => by rw [← hAe]; exact Or.inr h
  have hS : va_S A s.heap s.heap [] := va_S.rf
  refine W_q (R1 := (rmq 0 0)) rfl (fun Q0 hQ0 => ?_)
  unfold F_X4_tell at hF
  refine W_entry hav (Nat.le_of_ble_eq_true rfl) (fun ls hl => ?_)
  have hl : lv_has ls 5 [(0, .ref a_t), (1, .int p1), (2, .int p2), (3, .int p3), (4, .int p4)] := hl
  refine lv_aload_n hx hb dX4_tell_0 rfl (lv_at hl 0 rfl) ?_
  refine lv_iload_n hx hb dX4_tell_1 rfl (lv_at hl 1 rfl) ?_
  obtain ⟨g_2, hF⟩ := gd_i hF
  refine va_put (D := D) (ci := 8) (v := .int p1) (ty := .char) (C := RX4) (T := TX4) (N := 4) hx hb hts iX4_tell_X4 tyX4 tyX4_ok nmX4 hown hK hP hD hS 0 rfl rfl 0 (by decide) (hts (.fieldLink RX4 9 "SkipArchive$Order" "sign" "C") (List.mem_of_getElem? (i := 1) rfl)) (fun _ h9 => h9) rfl (by decide +kernel) (okC_n g_2).1 (okC_n g_2).2 (Nat.le_of_ble_eq_true rfl) dX4_tell_2 (fun H locs hP hD hS => ?_)
  have hP : va_P D vwCl [(a_t, .inr (8, [.int p1, .int t_number, .int t_weight, .int t_rungs]))] H := hP
  have hD : va_D A [(a_t, .inr (8, [.int p1, .int t_number, .int t_weight, .int t_rungs]))] := hD
  refine lv_aload_n hx hb dX4_tell_5 rfl (lv_at hl 0 rfl) ?_
  refine lv_iload_n hx hb dX4_tell_6 rfl (lv_at hl 2 rfl) ?_
  refine va_put (D := D) (ci := 8) (v := .int p2) (ty := .int) (C := RX4) (T := TX4) (N := 4) hx hb hts iX4_tell_X4 tyX4 tyX4_ok nmX4 hown hK hP hD hS 0 rfl rfl 1 (by decide) (hts (.fieldLink RX4 15 "SkipArchive$Order" "number" "I") (List.mem_of_getElem? (i := 2) rfl)) (fun _ h9 => h9) rfl (by decide +kernel) rfl rfl (Nat.le_of_ble_eq_true rfl) dX4_tell_7 (fun H locs hP hD hS => ?_)
  have hP : va_P D vwCl [(a_t, .inr (8, [.int p1, .int p2, .int t_weight, .int t_rungs]))] H := hP
  have hD : va_D A [(a_t, .inr (8, [.int p1, .int p2, .int t_weight, .int t_rungs]))] := hD
  refine lv_aload_n hx hb dX4_tell_10 rfl (lv_at hl 0 rfl) ?_
  refine lv_iload_n hx hb dX4_tell_11 rfl (lv_at hl 3 rfl) ?_
  refine va_put (D := D) (ci := 8) (v := .int p3) (ty := .int) (C := RX4) (T := TX4) (N := 4) hx hb hts iX4_tell_X4 tyX4 tyX4_ok nmX4 hown hK hP hD hS 0 rfl rfl 2 (by decide) (hts (.fieldLink RX4 19 "SkipArchive$Order" "weight" "I") (List.mem_of_getElem? (i := 3) rfl)) (fun _ h9 => h9) rfl (by decide +kernel) rfl rfl (Nat.le_of_ble_eq_true rfl) dX4_tell_12 (fun H locs hP hD hS => ?_)
  have hP : va_P D vwCl [(a_t, .inr (8, [.int p1, .int p2, .int p3, .int t_rungs]))] H := hP
  have hD : va_D A [(a_t, .inr (8, [.int p1, .int p2, .int p3, .int t_rungs]))] := hD
  refine lv_aload_n hx hb dX4_tell_15 rfl (lv_at hl 0 rfl) ?_
  refine lv_iload hx hb dX4_tell_16 (lv_at hl 4 rfl) ?_
  refine va_put (D := D) (ci := 8) (v := .int p4) (ty := .int) (C := RX4) (T := TX4) (N := 4) hx hb hts iX4_tell_X4 tyX4 tyX4_ok nmX4 hown hK hP hD hS 0 rfl rfl 3 (by decide) (hts (.fieldLink RX4 22 "SkipArchive$Order" "rungs" "I") (List.mem_of_getElem? (i := 4) rfl)) (fun _ h9 => h9) rfl (by decide +kernel) rfl rfl (Nat.le_of_ble_eq_true rfl) dX4_tell_18 (fun H locs hP hD hS => ?_)
  have hP : va_P D vwCl [(a_t, .inr (8, [.int p1, .int p2, .int p3, .int p4]))] H := hP
  have hD : va_D A [(a_t, .inr (8, [.int p1, .int p2, .int p3, .int p4]))] := hD
  obtain ⟨e0_21, e1_21, e2_21, e3_21⟩ := inj4 hF
  rw [← e0_21, ← e1_21, ← e2_21, ← e3_21] at hQ0
  rw [hQ0]
  exact ret_v hx hb hr hlocks hAe hK hP hD hS [0] rfl rfl dX4_tell_21
def F_X4_sign (fl : Nat) (t_sign : Int32) : Option (Int32) := gd (okC t_sign = true) (some t_sign)
theorem iX4_sign_X4 : ∀ w ∈ u_ws RX4 TX4 4, w ∈ wsX4_sign := fun w h => List.mem_cons_of_mem _ (List.mem_append_right _ h)
set_option maxHeartbeats 4000000 in
set_option maxRecDepth 100000 in
theorem c_X4_sign (l : Launch) (D : va_G) (y : Nat → ClassId) (fl : Nat) (a_t : Nat) (t_sign : Int32) (t_number : Int32) (t_weight : Int32) (t_rungs : Int32) (r : Int32) (hF : F_X4_sign fl t_sign = some r) : Met l yX4_sign wsX4_sign (rmq 0 0) (rdP D y [(a_t, .inr (8, [.int t_sign, .int t_number, .int t_weight, .int t_rungs]))] [.ref a_t]) (QcRead r) 0 0 (fun _ => False) := by
  refine Met.ofW (cc := cX4_sign) (maxL := 1) (ret := (some .char)) (by decide) rfl ?_
  intro p e s m args below meth c s₁ B hml hv
  obtain ⟨hav, hP, hK⟩ := hv
  have hx := B.exec
  have hb := B.bytes
  have hr := B.returns
  have hts := atoms_spec (ws := wsX4_sign) B.pre
  have hown : s.vm.findClass RX4 = some m.cls := findClass_of_methodNamed B.named
  have hlocks := B.notSynchronized
  refine W_q (R1 := (rmq 0 0)) rfl (fun Q0 hQ0 => ?_)
  unfold F_X4_sign at hF
  refine W_entry hav (Nat.le_of_ble_eq_true rfl) (fun ls hl => ?_)
  have hl : lv_has ls 1 [(0, .ref a_t)] := hl
  refine lv_aload_n hx hb dX4_sign_0 rfl (lv_at hl 0 rfl) ?_
  refine va_get (D := D) (ci := 8) (v := .int t_sign) (C := RX4) (T := TX4) (N := 4) hx hb hts iX4_sign_X4 hown hK hP 0 rfl rfl 0 (by decide) (hts (.fieldLink RX4 9 "SkipArchive$Order" "sign" "C") (List.mem_of_getElem? (i := 1) rfl)) (fun _ h9 => h9) rfl dX4_sign_1 ?_
  obtain ⟨g_4, hF⟩ := gd_i hF
  obtain e0_4 := inj1 hF
  rw [← e0_4] at hQ0
  rw [hQ0]
  exact W.zret (v := t_sign) hx hb hr (okC_n g_4).1 (fun t ht hW => ⟨rfl, ht⟩) (fun _ h => nomatch h) dX4_sign_4
def F_X4_number (fl : Nat) (t_number : Int32) : Option (Int32) := some t_number
theorem iX4_number_X4 : ∀ w ∈ u_ws RX4 TX4 4, w ∈ wsX4_number := fun w h => List.mem_cons_of_mem _ (List.mem_append_right _ h)
set_option maxHeartbeats 4000000 in
set_option maxRecDepth 100000 in
theorem c_X4_number (l : Launch) (D : va_G) (y : Nat → ClassId) (fl : Nat) (a_t : Nat) (t_sign : Int32) (t_number : Int32) (t_weight : Int32) (t_rungs : Int32) (r : Int32) (hF : F_X4_number fl t_number = some r) : Met l yX4_number wsX4_number (rmq 0 0) (rdP D y [(a_t, .inr (8, [.int t_sign, .int t_number, .int t_weight, .int t_rungs]))] [.ref a_t]) (QcRead r) 0 0 (fun _ => False) := by
  refine Met.ofW (cc := cX4_number) (maxL := 1) (ret := (some .int)) (by decide) rfl ?_
  intro p e s m args below meth c s₁ B hml hv
  obtain ⟨hav, hP, hK⟩ := hv
  have hx := B.exec
  have hb := B.bytes
  have hr := B.returns
  have hts := atoms_spec (ws := wsX4_number) B.pre
  have hown : s.vm.findClass RX4 = some m.cls := findClass_of_methodNamed B.named
  have hlocks := B.notSynchronized
  refine W_q (R1 := (rmq 0 0)) rfl (fun Q0 hQ0 => ?_)
  unfold F_X4_number at hF
  refine W_entry hav (Nat.le_of_ble_eq_true rfl) (fun ls hl => ?_)
  have hl : lv_has ls 1 [(0, .ref a_t)] := hl
  refine lv_aload_n hx hb dX4_number_0 rfl (lv_at hl 0 rfl) ?_
  refine va_get (D := D) (ci := 8) (v := .int t_number) (C := RX4) (T := TX4) (N := 4) hx hb hts iX4_number_X4 hown hK hP 0 rfl rfl 1 (by decide) (hts (.fieldLink RX4 15 "SkipArchive$Order" "number" "I") (List.mem_of_getElem? (i := 1) rfl)) (fun _ h9 => h9) rfl dX4_number_1 ?_
  obtain e0_4 := inj1 hF
  rw [← e0_4] at hQ0
  rw [hQ0]
  exact W.iret (v := t_number) hx hb hr (fun t ht hW => ⟨rfl, ht⟩) (fun _ h => nomatch h) dX4_number_4
def F_X4_weight (fl : Nat) (t_weight : Int32) : Option (Int32) := some t_weight
theorem iX4_weight_X4 : ∀ w ∈ u_ws RX4 TX4 4, w ∈ wsX4_weight := fun w h => List.mem_cons_of_mem _ (List.mem_append_right _ h)
set_option maxHeartbeats 4000000 in
set_option maxRecDepth 100000 in
theorem c_X4_weight (l : Launch) (D : va_G) (y : Nat → ClassId) (fl : Nat) (a_t : Nat) (t_sign : Int32) (t_number : Int32) (t_weight : Int32) (t_rungs : Int32) (r : Int32) (hF : F_X4_weight fl t_weight = some r) : Met l yX4_weight wsX4_weight (rmq 0 0) (rdP D y [(a_t, .inr (8, [.int t_sign, .int t_number, .int t_weight, .int t_rungs]))] [.ref a_t]) (QcRead r) 0 0 (fun _ => False) := by
  refine Met.ofW (cc := cX4_weight) (maxL := 1) (ret := (some .int)) (by decide) rfl ?_
  intro p e s m args below meth c s₁ B hml hv
  obtain ⟨hav, hP, hK⟩ := hv
  have hx := B.exec
  have hb := B.bytes
  have hr := B.returns
  have hts := atoms_spec (ws := wsX4_weight) B.pre
  have hown : s.vm.findClass RX4 = some m.cls := findClass_of_methodNamed B.named
  have hlocks := B.notSynchronized
  refine W_q (R1 := (rmq 0 0)) rfl (fun Q0 hQ0 => ?_)
  unfold F_X4_weight at hF
  refine W_entry hav (Nat.le_of_ble_eq_true rfl) (fun ls hl => ?_)
  have hl : lv_has ls 1 [(0, .ref a_t)] := hl
  refine lv_aload_n hx hb dX4_weight_0 rfl (lv_at hl 0 rfl) ?_
  refine va_get (D := D) (ci := 8) (v := .int t_weight) (C := RX4) (T := TX4) (N := 4) hx hb hts iX4_weight_X4 hown hK hP 0 rfl rfl 2 (by decide) (hts (.fieldLink RX4 19 "SkipArchive$Order" "weight" "I") (List.mem_of_getElem? (i := 1) rfl)) (fun _ h9 => h9) rfl dX4_weight_1 ?_
  obtain e0_4 := inj1 hF
  rw [← e0_4] at hQ0
  rw [hQ0]
  exact W.iret (v := t_weight) hx hb hr (fun t ht hW => ⟨rfl, ht⟩) (fun _ h => nomatch h) dX4_weight_4
def F_X4_rungs (fl : Nat) (t_rungs : Int32) : Option (Int32) := some t_rungs
theorem iX4_rungs_X4 : ∀ w ∈ u_ws RX4 TX4 4, w ∈ wsX4_rungs := fun w h => List.mem_cons_of_mem _ (List.mem_append_right _ h)
set_option maxHeartbeats 4000000 in
set_option maxRecDepth 100000 in
theorem c_X4_rungs (l : Launch) (D : va_G) (y : Nat → ClassId) (fl : Nat) (a_t : Nat) (t_sign : Int32) (t_number : Int32) (t_weight : Int32) (t_rungs : Int32) (r : Int32) (hF : F_X4_rungs fl t_rungs = some r) : Met l yX4_rungs wsX4_rungs (rmq 0 0) (rdP D y [(a_t, .inr (8, [.int t_sign, .int t_number, .int t_weight, .int t_rungs]))] [.ref a_t]) (QcRead r) 0 0 (fun _ => False) := by
  refine Met.ofW (cc := cX4_rungs) (maxL := 1) (ret := (some .int)) (by decide) rfl ?_
  intro p e s m args below meth c s₁ B hml hv
  obtain ⟨hav, hP, hK⟩ := hv
  have hx := B.exec
  have hb := B.bytes
  have hr := B.returns
  have hts := atoms_spec (ws := wsX4_rungs) B.pre
  have hown : s.vm.findClass RX4 = some m.cls := findClass_of_methodNamed B.named
  have hlocks := B.notSynchronized
  refine W_q (R1 := (rmq 0 0)) rfl (fun Q0 hQ0 => ?_)
  unfold F_X4_rungs at hF
  refine W_entry hav (Nat.le_of_ble_eq_true rfl) (fun ls hl => ?_)
  have hl : lv_has ls 1 [(0, .ref a_t)] := hl
  refine lv_aload_n hx hb dX4_rungs_0 rfl (lv_at hl 0 rfl) ?_
  refine va_get (D := D) (ci := 8) (v := .int t_rungs) (C := RX4) (T := TX4) (N := 4) hx hb hts iX4_rungs_X4 hown hK hP 0 rfl rfl 3 (by decide) (hts (.fieldLink RX4 22 "SkipArchive$Order" "rungs" "I") (List.mem_of_getElem? (i := 1) rfl)) (fun _ h9 => h9) rfl dX4_rungs_1 ?_
  obtain e0_4 := inj1 hF
  rw [← e0_4] at hQ0
  rw [hQ0]
  exact W.iret (v := t_rungs) hx hb hr (fun t ht hW => ⟨rfl, ht⟩) (fun _ h => nomatch h) dX4_rungs_4
def F_X5_length (fl : Nat) (t_length : Int32) : Option (Int32) := some t_length
theorem iX5_length_X5 : ∀ w ∈ u_ws RX5 TX5 4, w ∈ wsX5_length := fun w h => List.mem_cons_of_mem _ (List.mem_append_right _ h)
set_option maxHeartbeats 4000000 in
set_option maxRecDepth 100000 in
theorem c_X5_length (l : Launch) (D : va_G) (y : Nat → ClassId) (fl : Nat) (a_t : Nat) (a_t_text : Nat) (t_length : Int32) (t_at : Int32) (t_faulty : Int32) (r : Int32) (hF : F_X5_length fl t_length = some r) : Met l yX5_length wsX5_length (rmq 0 0) (rdP D y [(a_t, .inr (9, [.ref a_t_text, .int t_length, .int t_at, .int t_faulty]))] [.ref a_t]) (QcRead r) 0 0 (fun _ => False) := by
  refine Met.ofW (cc := cX5_length) (maxL := 1) (ret := (some .int)) (by decide) rfl ?_
  intro p e s m args below meth c s₁ B hml hv
  obtain ⟨hav, hP, hK⟩ := hv
  have hx := B.exec
  have hb := B.bytes
  have hr := B.returns
  have hts := atoms_spec (ws := wsX5_length) B.pre
  have hown : s.vm.findClass RX5 = some m.cls := findClass_of_methodNamed B.named
  have hlocks := B.notSynchronized
  refine W_q (R1 := (rmq 0 0)) rfl (fun Q0 hQ0 => ?_)
  unfold F_X5_length at hF
  refine W_entry hav (Nat.le_of_ble_eq_true rfl) (fun ls hl => ?_)
  have hl : lv_has ls 1 [(0, .ref a_t)] := hl
  refine lv_aload_n hx hb dX5_length_0 rfl (lv_at hl 0 rfl) ?_
  refine va_get (D := D) (ci := 9) (v := .int t_length) (C := RX5) (T := TX5) (N := 4) hx hb hts iX5_length_X5 hown hK hP 0 rfl rfl 1 (by decide) (hts (.fieldLink RX5 15 "SkipArchive$Reader" "length" "I") (List.mem_of_getElem? (i := 1) rfl)) (fun _ h9 => h9) rfl dX5_length_1 ?_
  obtain e0_4 := inj1 hF
  rw [← e0_4] at hQ0
  rw [hQ0]
  exact W.iret (v := t_length) hx hb hr (fun t ht hW => ⟨rfl, ht⟩) (fun _ h => nomatch h) dX5_length_4
def F_X5_clear (fl : Nat) (t_length : Int32) : Option (Int32) := some (0 : Int32)
theorem iX5_clear_X5 : ∀ w ∈ u_ws RX5 TX5 4, w ∈ wsX5_clear := fun w h => List.mem_cons_of_mem _ (List.mem_append_right _ h)
set_option maxHeartbeats 4000000 in
set_option maxRecDepth 100000 in
theorem c_X5_clear (l : Launch) (D : va_G) (y : Nat → ClassId) (fl : Nat) (sz : Nat) (a_t : Nat) (a_t_text : Nat) (t_length : Int32) (t_at : Int32) (t_faulty : Int32) (t_length' : Int32) (hF : F_X5_clear fl t_length = some t_length') : Met l yX5_clear wsX5_clear (rmq 0 0) (wrP D y [(a_t, .inr (9, [.ref a_t_text, .int t_length, .int t_at, .int t_faulty]))] sz [.ref a_t]) (wQv D y [(a_t, .inr (9, [.ref a_t_text, .int t_length', .int t_at, .int t_faulty]))] [(a_t, .inr (9, [.ref a_t_text, .int t_length, .int t_at, .int t_faulty]))] sz) 0 0 (va_A [(a_t, .inr (9, [.ref a_t_text, .int t_length, .int t_at, .int t_faulty]))] sz) := by
  refine Met.ofW (cc := cX5_clear) (maxL := 1) (ret := none) (by decide) rfl ?_
  intro p e s m args below meth c s₁ B hml hv
  obtain ⟨hav, hsz, hP, hK, hD0⟩ := hv
  have hx := B.exec
  have hb := B.bytes
  have hr := B.returns
  have hts := atoms_spec (ws := wsX5_clear) B.pre
  have hown : s.vm.findClass RX5 = some m.cls := findClass_of_methodNamed B.named
  have hlocks := B.notSynchronized
  subst hsz
  have hD := hD0.self (sz := s.heap.size)
  obtain ⟨A, hAe⟩ : ∃ A : Nat → Prop, va_A [(a_t, .inr (9, [.ref a_t_text, .int t_length, .int t_at, .int t_faulty]))] s.heap.size = A := ⟨_, rfl⟩
  rw [hAe] at hD
  have hA : ∀ q, s.heap.size ≤ q → A q := fun q h => by rw [← hAe]; exact Or.inr h
  have hS : va_S A s.heap s.heap [] := va_S.rf
  refine W_q (R1 := (rmq 0 0)) rfl (fun Q0 hQ0 => ?_)
  unfold F_X5_clear at hF
  refine W_entry hav (Nat.le_of_ble_eq_true rfl) (fun ls hl => ?_)
  have hl : lv_has ls 1 [(0, .ref a_t)] := hl
  refine lv_aload_n hx hb dX5_clear_0 rfl (lv_at hl 0 rfl) ?_
  refine lv_iconst (v := 0) hx hb dX5_clear_1 (by decide) ?_
  refine va_put (D := D) (ci := 9) (v := .int (0 : Int32)) (ty := .int) (C := RX5) (T := TX5) (N := 4) hx hb hts iX5_clear_X5 tyX5 tyX5_ok nmX5 hown hK hP hD hS 0 rfl rfl 1 (by decide) (hts (.fieldLink RX5 15 "SkipArchive$Reader" "length" "I") (List.mem_of_getElem? (i := 1) rfl)) (fun _ h9 => h9) rfl (by decide +kernel) rfl rfl (Nat.le_of_ble_eq_true rfl) dX5_clear_2 (fun H locs hP hD hS => ?_)
  have hP : va_P D vwCl [(a_t, .inr (9, [.ref a_t_text, .int (0 : Int32), .int t_at, .int t_faulty]))] H := hP
  have hD : va_D A [(a_t, .inr (9, [.ref a_t_text, .int (0 : Int32), .int t_at, .int t_faulty]))] := hD
  obtain e0_5 := inj1 hF
  rw [← e0_5] at hQ0
  rw [hQ0]
  exact ret_v hx hb hr hlocks hAe hK hP hD hS [0] rfl rfl dX5_clear_5
def F_X5_take (fl : Nat) (t_length : Int32) (t_text : Nat → Int32) (p1 : Int32) : Option (Int32 × Int32 × (Nat → Int32)) := if t_length < 0 then (some ((0 : Int32), t_length, t_text)) else (if t_length < (60 : Int32) then (gi t_length 60 (some ((1 : Int32), t_length + (1 : Int32), upd t_text t_length.toNatClampNeg (vp_nar .char p1)))) else (some ((0 : Int32), t_length, t_text)))
theorem iX5_take_X5 : ∀ w ∈ u_ws RX5 TX5 4, w ∈ wsX5_take := fun w h => List.mem_cons_of_mem _ (List.mem_append_left _ (List.mem_append_right _ h))
set_option maxHeartbeats 4000000 in
set_option maxRecDepth 100000 in
theorem c_X5_take (l : Launch) (D : va_G) (y : Nat → ClassId) (fl : Nat) (sz : Nat) (a_t : Nat) (a_t_text : Nat) (t_length : Int32) (t_at : Int32) (t_faulty : Int32) (t_text : Nat → Int32) (p1 : Int32) (r : Int32) (t_length' : Int32) (t_text' : Nat → Int32) (hF : F_X5_take fl t_length t_text p1 = some (r, t_length', t_text')) : Met l yX5_take wsX5_take (rmq 0 0) (wrP D y [(a_t, .inr (9, [.ref a_t_text, .int t_length, .int t_at, .int t_faulty])), (a_t_text, .inl (y 1, 60, .inl t_text))] sz [.ref a_t, .int p1]) (wQi D y r [(a_t, .inr (9, [.ref a_t_text, .int t_length', .int t_at, .int t_faulty])), (a_t_text, .inl (y 1, 60, .inl t_text'))] [(a_t, .inr (9, [.ref a_t_text, .int t_length, .int t_at, .int t_faulty])), (a_t_text, .inl (y 1, 60, .inl t_text))] sz) 0 0 (va_A [(a_t, .inr (9, [.ref a_t_text, .int t_length, .int t_at, .int t_faulty])), (a_t_text, .inl (y 1, 60, .inl t_text))] sz) := by
  refine Met.ofW (cc := cX5_take) (maxL := 2) (ret := (some .boolean)) (by decide) rfl ?_
  intro p e s m args below meth c s₁ B hml hv
  obtain ⟨hav, hsz, hP, hK, hD0⟩ := hv
  have hx := B.exec
  have hb := B.bytes
  have hr := B.returns
  have hts := atoms_spec (ws := wsX5_take) B.pre
  have hown : s.vm.findClass RX5 = some m.cls := findClass_of_methodNamed B.named
  have hlocks := B.notSynchronized
  subst hsz
  have hD := hD0.self (sz := s.heap.size)
  obtain ⟨A, hAe⟩ : ∃ A : Nat → Prop, va_A [(a_t, .inr (9, [.ref a_t_text, .int t_length, .int t_at, .int t_faulty])), (a_t_text, .inl (y 1, 60, .inl t_text))] s.heap.size = A := ⟨_, rfl⟩
  rw [hAe] at hD
  have hA : ∀ q, s.heap.size ≤ q → A q := fun q h => by rw [← hAe]; exact Or.inr h
  have hS : va_S A s.heap s.heap [] := va_S.rf
  refine W_q (R1 := (rmq 0 0)) rfl (fun Q0 hQ0 => ?_)
  unfold F_X5_take at hF
  refine W_entry hav (Nat.le_of_ble_eq_true rfl) (fun ls hl => ?_)
  have hl : lv_has ls 2 [(0, .ref a_t), (1, .int p1)] := hl
  refine lv_aload_n hx hb dX5_take_0 rfl (lv_at hl 0 rfl) ?_
  refine va_get (D := D) (ci := 9) (v := .int t_length) (C := RX5) (T := TX5) (N := 4) hx hb hts iX5_take_X5 hown hK hP 0 rfl rfl 1 (by decide) (hts (.fieldLink RX5 15 "SkipArchive$Reader" "length" "I") (List.mem_of_getElem? (i := 1) rfl)) (fun _ h9 => h9) rfl dX5_take_1 ?_
  refine lv_if_lt (tgt := 16) hx hb dX5_take_4 (by decide) (fun c_4 => ?_) (fun c_4 => ?_)
  · have hF := ift hF c_4
    refine lv_iconst (v := 0) hx hb dX5_take_16 (by decide) ?_
    obtain ⟨e0_17, e1_17, e2_17⟩ := inj3 hF
    rw [← e0_17, ← e1_17, ← e2_17] at hQ0
    rw [hQ0]
    exact ret_z hx hb hr (by decide +kernel) hlocks hAe hK hP hD hS [0, 1] rfl rfl dX5_take_17
  · have hF := iff_ hF c_4
    refine lv_aload_n hx hb dX5_take_7 rfl (lv_at hl 0 rfl) ?_
    refine va_get (D := D) (ci := 9) (v := .int t_length) (C := RX5) (T := TX5) (N := 4) hx hb hts iX5_take_X5 hown hK hP 0 rfl rfl 1 (by decide) (hts (.fieldLink RX5 15 "SkipArchive$Reader" "length" "I") (List.mem_of_getElem? (i := 1) rfl)) (fun _ h9 => h9) rfl dX5_take_8 ?_
    refine lv_bipush (v := 60) hx hb dX5_take_11 (by decide) ?_
    refine lv_icmp_lt (tgt := 18) hx hb dX5_take_13 (by decide) (fun c_13 => ?_) (fun c_13 => ?_)
    · have hF := ift hF c_13
      refine lv_aload_n hx hb dX5_take_18 rfl (lv_at hl 0 rfl) ?_
      refine va_get (D := D) (ci := 9) (v := .ref a_t_text) (C := RX5) (T := TX5) (N := 4) hx hb hts iX5_take_X5 hown hK hP 0 rfl rfl 0 (by decide) (hts (.fieldLink RX5 9 "SkipArchive$Reader" "text" "[C") (List.mem_of_getElem? (i := 2) rfl)) (fun _ h9 => h9) rfl dX5_take_19 ?_
      refine lv_aload_n hx hb dX5_take_22 rfl (lv_at hl 0 rfl) ?_
      refine va_get (D := D) (ci := 9) (v := .int t_length) (C := RX5) (T := TX5) (N := 4) hx hb hts iX5_take_X5 hown hK hP 0 rfl rfl 1 (by decide) (hts (.fieldLink RX5 15 "SkipArchive$Reader" "length" "I") (List.mem_of_getElem? (i := 1) rfl)) (fun _ h9 => h9) rfl dX5_take_23 ?_
      refine lv_iload_n hx hb dX5_take_26 rfl (lv_at hl 1 rfl) ?_
      obtain ⟨g_27, hF⟩ := gi_i hF
      refine va_cast hx hb hK hP hD hS 1 1 rfl rfl g_27 dX5_take_27 (fun H locs hP hD hS => ?_)
      have hP : va_P D vwCl [(a_t, .inr (9, [.ref a_t_text, .int t_length, .int t_at, .int t_faulty])), (a_t_text, .inl (y 1, 60, .inl (upd t_text t_length.toNatClampNeg (vp_nar .char p1))))] H := hP
      have hD : va_D A [(a_t, .inr (9, [.ref a_t_text, .int t_length, .int t_at, .int t_faulty])), (a_t_text, .inl (y 1, 60, .inl (upd t_text t_length.toNatClampNeg (vp_nar .char p1))))] := hD
      refine lv_aload_n hx hb dX5_take_28 rfl (lv_at hl 0 rfl) ?_
      refine lv_dup hx hb dX5_take_29 rfl ?_
      refine va_get (D := D) (ci := 9) (v := .int t_length) (C := RX5) (T := TX5) (N := 4) hx hb hts iX5_take_X5 hown hK hP 0 rfl rfl 1 (by decide) (hts (.fieldLink RX5 15 "SkipArchive$Reader" "length" "I") (List.mem_of_getElem? (i := 1) rfl)) (fun _ h9 => h9) rfl dX5_take_30 ?_
      refine lv_iconst (v := 1) hx hb dX5_take_33 (by decide) ?_
      refine lv_iadd hx hb dX5_take_34 ?_
      refine va_put (D := D) (ci := 9) (v := .int (t_length + (1 : Int32))) (ty := .int) (C := RX5) (T := TX5) (N := 4) hx hb hts iX5_take_X5 tyX5 tyX5_ok nmX5 hown hK hP hD hS 0 rfl rfl 1 (by decide) (hts (.fieldLink RX5 15 "SkipArchive$Reader" "length" "I") (List.mem_of_getElem? (i := 1) rfl)) (fun _ h9 => h9) rfl (by decide +kernel) rfl rfl (Nat.le_of_ble_eq_true rfl) dX5_take_35 (fun H locs hP hD hS => ?_)
      have hP : va_P D vwCl [(a_t, .inr (9, [.ref a_t_text, .int (t_length + (1 : Int32)), .int t_at, .int t_faulty])), (a_t_text, .inl (y 1, 60, .inl (upd t_text t_length.toNatClampNeg (vp_nar .char p1))))] H := hP
      have hD : va_D A [(a_t, .inr (9, [.ref a_t_text, .int (t_length + (1 : Int32)), .int t_at, .int t_faulty])), (a_t_text, .inl (y 1, 60, .inl (upd t_text t_length.toNatClampNeg (vp_nar .char p1))))] := hD
      refine lv_iconst (v := 1) hx hb dX5_take_38 (by decide) ?_
      obtain ⟨e0_39, e1_39, e2_39⟩ := inj3 hF
      rw [← e0_39, ← e1_39, ← e2_39] at hQ0
      rw [hQ0]
      exact ret_z hx hb hr (by decide +kernel) hlocks hAe hK hP hD hS [0, 1] rfl rfl dX5_take_39
    · have hF := iff_ hF c_13
      refine lv_iconst (v := 0) hx hb dX5_take_16 (by decide) ?_
      obtain ⟨e0_17, e1_17, e2_17⟩ := inj3 hF
      rw [← e0_17, ← e1_17, ← e2_17] at hQ0
      rw [hQ0]
      exact ret_z hx hb hr (by decide +kernel) hlocks hAe hK hP hD hS [0, 1] rfl rfl dX5_take_17
def F_X5_rewind (fl : Nat) (t_at : Int32) (t_faulty : Int32) : Option (Int32 × Int32) := some ((0 : Int32), (0 : Int32))
theorem iX5_rewind_X5 : ∀ w ∈ u_ws RX5 TX5 4, w ∈ wsX5_rewind := fun w h => List.mem_cons_of_mem _ (List.mem_append_right _ h)
set_option maxHeartbeats 4000000 in
set_option maxRecDepth 100000 in
theorem c_X5_rewind (l : Launch) (D : va_G) (y : Nat → ClassId) (fl : Nat) (sz : Nat) (a_t : Nat) (a_t_text : Nat) (t_length : Int32) (t_at : Int32) (t_faulty : Int32) (t_at' : Int32) (t_faulty' : Int32) (hF : F_X5_rewind fl t_at t_faulty = some (t_at', t_faulty')) : Met l yX5_rewind wsX5_rewind (rmq 0 0) (wrP D y [(a_t, .inr (9, [.ref a_t_text, .int t_length, .int t_at, .int t_faulty]))] sz [.ref a_t]) (wQv D y [(a_t, .inr (9, [.ref a_t_text, .int t_length, .int t_at', .int t_faulty']))] [(a_t, .inr (9, [.ref a_t_text, .int t_length, .int t_at, .int t_faulty]))] sz) 0 0 (va_A [(a_t, .inr (9, [.ref a_t_text, .int t_length, .int t_at, .int t_faulty]))] sz) := by
  refine Met.ofW (cc := cX5_rewind) (maxL := 1) (ret := none) (by decide) rfl ?_
  intro p e s m args below meth c s₁ B hml hv
  obtain ⟨hav, hsz, hP, hK, hD0⟩ := hv
  have hx := B.exec
  have hb := B.bytes
  have hr := B.returns
  have hts := atoms_spec (ws := wsX5_rewind) B.pre
  have hown : s.vm.findClass RX5 = some m.cls := findClass_of_methodNamed B.named
  have hlocks := B.notSynchronized
  subst hsz
  have hD := hD0.self (sz := s.heap.size)
  obtain ⟨A, hAe⟩ : ∃ A : Nat → Prop, va_A [(a_t, .inr (9, [.ref a_t_text, .int t_length, .int t_at, .int t_faulty]))] s.heap.size = A := ⟨_, rfl⟩
  rw [hAe] at hD
  have hA : ∀ q, s.heap.size ≤ q → A q := fun q h => by rw [← hAe]; exact Or.inr h
  have hS : va_S A s.heap s.heap [] := va_S.rf
  refine W_q (R1 := (rmq 0 0)) rfl (fun Q0 hQ0 => ?_)
  unfold F_X5_rewind at hF
  refine W_entry hav (Nat.le_of_ble_eq_true rfl) (fun ls hl => ?_)
  have hl : lv_has ls 1 [(0, .ref a_t)] := hl
  refine lv_aload_n hx hb dX5_rewind_0 rfl (lv_at hl 0 rfl) ?_
  refine lv_iconst (v := 0) hx hb dX5_rewind_1 (by decide) ?_
  refine va_put (D := D) (ci := 9) (v := .int (0 : Int32)) (ty := .int) (C := RX5) (T := TX5) (N := 4) hx hb hts iX5_rewind_X5 tyX5 tyX5_ok nmX5 hown hK hP hD hS 0 rfl rfl 2 (by decide) (hts (.fieldLink RX5 19 "SkipArchive$Reader" "at" "I") (List.mem_of_getElem? (i := 1) rfl)) (fun _ h9 => h9) rfl (by decide +kernel) rfl rfl (Nat.le_of_ble_eq_true rfl) dX5_rewind_2 (fun H locs hP hD hS => ?_)
  have hP : va_P D vwCl [(a_t, .inr (9, [.ref a_t_text, .int t_length, .int (0 : Int32), .int t_faulty]))] H := hP
  have hD : va_D A [(a_t, .inr (9, [.ref a_t_text, .int t_length, .int (0 : Int32), .int t_faulty]))] := hD
  refine lv_aload_n hx hb dX5_rewind_5 rfl (lv_at hl 0 rfl) ?_
  refine lv_iconst (v := 0) hx hb dX5_rewind_6 (by decide) ?_
  refine va_put (D := D) (ci := 9) (v := .int (0 : Int32)) (ty := .boolean) (C := RX5) (T := TX5) (N := 4) hx hb hts iX5_rewind_X5 tyX5 tyX5_ok nmX5 hown hK hP hD hS 0 rfl rfl 3 (by decide) (hts (.fieldLink RX5 22 "SkipArchive$Reader" "faulty" "Z") (List.mem_of_getElem? (i := 2) rfl)) (fun _ h9 => h9) rfl (by decide +kernel) (by decide +kernel) (by decide +kernel) (Nat.le_of_ble_eq_true rfl) dX5_rewind_7 (fun H locs hP hD hS => ?_)
  have hP : va_P D vwCl [(a_t, .inr (9, [.ref a_t_text, .int t_length, .int (0 : Int32), .int (0 : Int32)]))] H := hP
  have hD : va_D A [(a_t, .inr (9, [.ref a_t_text, .int t_length, .int (0 : Int32), .int (0 : Int32)]))] := hD
  obtain ⟨e0_10, e1_10⟩ := inj2 hF
  rw [← e0_10, ← e1_10] at hQ0
  rw [hQ0]
  exact ret_v hx hb hr hlocks hAe hK hP hD hS [0] rfl rfl dX5_rewind_10
def F_X5_isDigit (fl : Nat) (p0 : Int32) : Option (Int32) := if p0 < (48 : Int32) then (some (0 : Int32)) else (if (57 : Int32) < p0 then (some (0 : Int32)) else (some (1 : Int32)))
set_option maxHeartbeats 4000000 in
set_option maxRecDepth 100000 in
theorem c_X5_isDigit (l : Launch) (D : va_G) (y : Nat → ClassId) (fl : Nat) (p0 : Int32) (r : Int32) (hF : F_X5_isDigit fl p0 = some r) : Met l yX5_isDigit wsX5_isDigit (rmq 0 0) (rdP D y [] [.int p0]) (QcRead r) 0 0 (fun _ => False) := by
  refine Met.ofW (cc := cX5_isDigit) (maxL := 1) (ret := (some .boolean)) (by decide) rfl ?_
  intro p e s m args below meth c s₁ B hml hv
  obtain ⟨hav, hP, hK⟩ := hv
  have hx := B.exec
  have hb := B.bytes
  have hr := B.returns
  have hts := atoms_spec (ws := wsX5_isDigit) B.pre
  have hown : s.vm.findClass RX5 = some m.cls := findClass_of_methodNamed B.named
  have hlocks := B.notSynchronized
  refine W_q (R1 := (rmq 0 0)) rfl (fun Q0 hQ0 => ?_)
  unfold F_X5_isDigit at hF
  refine W_entry hav (Nat.le_of_ble_eq_true rfl) (fun ls hl => ?_)
  have hl : lv_has ls 1 [(0, .int p0)] := hl
  refine lv_iload_n hx hb dX5_isDigit_0 rfl (lv_at hl 0 rfl) ?_
  refine lv_bipush (v := 48) hx hb dX5_isDigit_1 (by decide) ?_
  refine lv_icmp_lt (tgt := 16) hx hb dX5_isDigit_3 (by decide) (fun c_3 => ?_) (fun c_3 => ?_)
  · have hF := ift hF c_3
    refine lv_iconst (v := 0) hx hb dX5_isDigit_16 (by decide) ?_
    obtain e0_17 := inj1 hF
    rw [← e0_17] at hQ0
    rw [hQ0]
    exact W.zret (v := (0 : Int32)) hx hb hr (by decide +kernel) (fun t ht hW => ⟨rfl, ht⟩) (fun _ h => nomatch h) dX5_isDigit_17
  · have hF := iff_ hF c_3
    refine lv_iload_n hx hb dX5_isDigit_6 rfl (lv_at hl 0 rfl) ?_
    refine lv_bipush (v := 57) hx hb dX5_isDigit_7 (by decide) ?_
    refine lv_icmp_gt (tgt := 16) hx hb dX5_isDigit_9 (by decide) (fun c_9 => ?_) (fun c_9 => ?_)
    · have hF := ift hF c_9
      refine lv_iconst (v := 0) hx hb dX5_isDigit_16 (by decide) ?_
      obtain e0_17 := inj1 hF
      rw [← e0_17] at hQ0
      rw [hQ0]
      exact W.zret (v := (0 : Int32)) hx hb hr (by decide +kernel) (fun t ht hW => ⟨rfl, ht⟩) (fun _ h => nomatch h) dX5_isDigit_17
    · have hF := iff_ hF c_9
      refine lv_iconst (v := 1) hx hb dX5_isDigit_12 (by decide) ?_
      refine lv_goto (tgt := 17) hx hb dX5_isDigit_13 (by decide) ?_
      obtain e0_17 := inj1 hF
      rw [← e0_17] at hQ0
      rw [hQ0]
      exact W.zret (v := (1 : Int32)) hx hb hr (by decide +kernel) (fun t ht hW => ⟨rfl, ht⟩) (fun _ h => nomatch h) dX5_isDigit_17
def F_X5_look (fl : Nat) (t_length : Int32) (t_at : Int32) (t_text : Nat → Int32) : Option (Int32) := if t_at < 0 then (some (-1 : Int32)) else (if t_length ≤ t_at then (some (-1 : Int32)) else (if (60 : Int32) ≤ t_at then (some (-1 : Int32)) else (gi t_at 60 (some (t_text t_at.toNatClampNeg)))))
theorem iX5_look_X5 : ∀ w ∈ u_ws RX5 TX5 4, w ∈ wsX5_look := fun w h => List.mem_cons_of_mem _ (List.mem_append_left _ (List.mem_append_right _ h))
set_option maxHeartbeats 4000000 in
set_option maxRecDepth 100000 in
theorem c_X5_look (l : Launch) (D : va_G) (y : Nat → ClassId) (fl : Nat) (a_t : Nat) (a_t_text : Nat) (t_length : Int32) (t_at : Int32) (t_faulty : Int32) (t_text : Nat → Int32) (r : Int32) (hF : F_X5_look fl t_length t_at t_text = some r) : Met l yX5_look wsX5_look (rmq 0 0) (rdP D y [(a_t, .inr (9, [.ref a_t_text, .int t_length, .int t_at, .int t_faulty])), (a_t_text, .inl (y 1, 60, .inl t_text))] [.ref a_t]) (QcRead r) 0 0 (fun _ => False) := by
  refine Met.ofW (cc := cX5_look) (maxL := 1) (ret := (some .int)) (by decide) rfl ?_
  intro p e s m args below meth c s₁ B hml hv
  obtain ⟨hav, hP, hK⟩ := hv
  have hx := B.exec
  have hb := B.bytes
  have hr := B.returns
  have hts := atoms_spec (ws := wsX5_look) B.pre
  have hown : s.vm.findClass RX5 = some m.cls := findClass_of_methodNamed B.named
  have hlocks := B.notSynchronized
  refine W_q (R1 := (rmq 0 0)) rfl (fun Q0 hQ0 => ?_)
  unfold F_X5_look at hF
  refine W_entry hav (Nat.le_of_ble_eq_true rfl) (fun ls hl => ?_)
  have hl : lv_has ls 1 [(0, .ref a_t)] := hl
  refine lv_aload_n hx hb dX5_look_0 rfl (lv_at hl 0 rfl) ?_
  refine va_get (D := D) (ci := 9) (v := .int t_at) (C := RX5) (T := TX5) (N := 4) hx hb hts iX5_look_X5 hown hK hP 0 rfl rfl 2 (by decide) (hts (.fieldLink RX5 19 "SkipArchive$Reader" "at" "I") (List.mem_of_getElem? (i := 1) rfl)) (fun _ h9 => h9) rfl dX5_look_1 ?_
  refine lv_if_lt (tgt := 39) hx hb dX5_look_4 (by decide) (fun c_4 => ?_) (fun c_4 => ?_)
  · have hF := ift hF c_4
    refine lv_iconst (v := -1) hx hb dX5_look_39 (by decide) ?_
    obtain e0_40 := inj1 hF
    rw [← e0_40] at hQ0
    rw [hQ0]
    exact W.iret (v := (-1 : Int32)) hx hb hr (fun t ht hW => ⟨rfl, ht⟩) (fun _ h => nomatch h) dX5_look_40
  · have hF := iff_ hF c_4
    refine lv_aload_n hx hb dX5_look_7 rfl (lv_at hl 0 rfl) ?_
    refine va_get (D := D) (ci := 9) (v := .int t_at) (C := RX5) (T := TX5) (N := 4) hx hb hts iX5_look_X5 hown hK hP 0 rfl rfl 2 (by decide) (hts (.fieldLink RX5 19 "SkipArchive$Reader" "at" "I") (List.mem_of_getElem? (i := 1) rfl)) (fun _ h9 => h9) rfl dX5_look_8 ?_
    refine lv_aload_n hx hb dX5_look_11 rfl (lv_at hl 0 rfl) ?_
    refine va_get (D := D) (ci := 9) (v := .int t_length) (C := RX5) (T := TX5) (N := 4) hx hb hts iX5_look_X5 hown hK hP 0 rfl rfl 1 (by decide) (hts (.fieldLink RX5 15 "SkipArchive$Reader" "length" "I") (List.mem_of_getElem? (i := 2) rfl)) (fun _ h9 => h9) rfl dX5_look_12 ?_
    refine lv_icmp_ge (tgt := 39) hx hb dX5_look_15 (by decide) (fun c_15 => ?_) (fun c_15 => ?_)
    · have hF := ift hF c_15
      refine lv_iconst (v := -1) hx hb dX5_look_39 (by decide) ?_
      obtain e0_40 := inj1 hF
      rw [← e0_40] at hQ0
      rw [hQ0]
      exact W.iret (v := (-1 : Int32)) hx hb hr (fun t ht hW => ⟨rfl, ht⟩) (fun _ h => nomatch h) dX5_look_40
    · have hF := iff_ hF c_15
      refine lv_aload_n hx hb dX5_look_18 rfl (lv_at hl 0 rfl) ?_
      refine va_get (D := D) (ci := 9) (v := .int t_at) (C := RX5) (T := TX5) (N := 4) hx hb hts iX5_look_X5 hown hK hP 0 rfl rfl 2 (by decide) (hts (.fieldLink RX5 19 "SkipArchive$Reader" "at" "I") (List.mem_of_getElem? (i := 1) rfl)) (fun _ h9 => h9) rfl dX5_look_19 ?_
      refine lv_bipush (v := 60) hx hb dX5_look_22 (by decide) ?_
      refine lv_icmp_ge (tgt := 39) hx hb dX5_look_24 (by decide) (fun c_24 => ?_) (fun c_24 => ?_)
      · have hF := ift hF c_24
        refine lv_iconst (v := -1) hx hb dX5_look_39 (by decide) ?_
        obtain e0_40 := inj1 hF
        rw [← e0_40] at hQ0
        rw [hQ0]
        exact W.iret (v := (-1 : Int32)) hx hb hr (fun t ht hW => ⟨rfl, ht⟩) (fun _ h => nomatch h) dX5_look_40
      · have hF := iff_ hF c_24
        refine lv_aload_n hx hb dX5_look_27 rfl (lv_at hl 0 rfl) ?_
        refine va_get (D := D) (ci := 9) (v := .ref a_t_text) (C := RX5) (T := TX5) (N := 4) hx hb hts iX5_look_X5 hown hK hP 0 rfl rfl 0 (by decide) (hts (.fieldLink RX5 9 "SkipArchive$Reader" "text" "[C") (List.mem_of_getElem? (i := 3) rfl)) (fun _ h9 => h9) rfl dX5_look_28 ?_
        refine lv_aload_n hx hb dX5_look_31 rfl (lv_at hl 0 rfl) ?_
        refine va_get (D := D) (ci := 9) (v := .int t_at) (C := RX5) (T := TX5) (N := 4) hx hb hts iX5_look_X5 hown hK hP 0 rfl rfl 2 (by decide) (hts (.fieldLink RX5 19 "SkipArchive$Reader" "at" "I") (List.mem_of_getElem? (i := 1) rfl)) (fun _ h9 => h9) rfl dX5_look_32 ?_
        obtain ⟨g_35, hF⟩ := gi_i hF
        refine va_cald hx hb hK hP 1 1 rfl rfl g_35 dX5_look_35 ?_
        refine lv_goto (tgt := 40) hx hb dX5_look_36 (by decide) ?_
        obtain e0_40 := inj1 hF
        rw [← e0_40] at hQ0
        rw [hQ0]
        exact W.iret (v := t_text t_at.toNatClampNeg) hx hb hr (fun t ht hW => ⟨rfl, ht⟩) (fun _ h => nomatch h) dX5_look_40
def F_X5_pass (fl : Nat) (t_length : Int32) (t_at : Int32) (t_faulty : Int32) (t_text : Nat → Int32) (p1 : Int32) : Option (Int32 × Int32 × Int32) := if t_faulty = 0 then (bn (F_X5_look fl t_length t_at t_text) fun r_8 => if r_8 = p1 then (some ((1 : Int32), t_at + (1 : Int32), t_faulty)) else (some ((0 : Int32), t_at, (1 : Int32)))) else (some ((0 : Int32), t_at, (1 : Int32)))
theorem iX5_pass_X5 : ∀ w ∈ u_ws RX5 TX5 4, w ∈ wsX5_pass := fun w h => List.mem_cons_of_mem _ (List.mem_append_left _ (List.mem_append_right _ h))
set_option maxHeartbeats 4000000 in
set_option maxRecDepth 100000 in
theorem c_X5_pass (l : Launch) (D : va_G) (y : Nat → ClassId) (fl : Nat) (sz : Nat) (a_t : Nat) (a_t_text : Nat) (t_length : Int32) (t_at : Int32) (t_faulty : Int32) (t_text : Nat → Int32) (p1 : Int32) (r : Int32) (t_at' : Int32) (t_faulty' : Int32) (hF : F_X5_pass fl t_length t_at t_faulty t_text p1 = some (r, t_at', t_faulty')) : Met l yX5_pass wsX5_pass (rmq 1 20) (wrP D y [(a_t, .inr (9, [.ref a_t_text, .int t_length, .int t_at, .int t_faulty])), (a_t_text, .inl (y 1, 60, .inl t_text))] sz [.ref a_t, .int p1]) (wQi D y r [(a_t, .inr (9, [.ref a_t_text, .int t_length, .int t_at', .int t_faulty'])), (a_t_text, .inl (y 1, 60, .inl t_text))] [(a_t, .inr (9, [.ref a_t_text, .int t_length, .int t_at, .int t_faulty])), (a_t_text, .inl (y 1, 60, .inl t_text))] sz) 0 0 (va_A [(a_t, .inr (9, [.ref a_t_text, .int t_length, .int t_at, .int t_faulty])), (a_t_text, .inl (y 1, 60, .inl t_text))] sz) := by
  refine Met.ofW (cc := cX5_pass) (maxL := 2) (ret := (some .boolean)) (by decide) rfl ?_
  intro p e s m args below meth c s₁ B hml hv
  obtain ⟨hav, hsz, hP, hK, hD0⟩ := hv
  have hx := B.exec
  have hb := B.bytes
  have hr := B.returns
  have hts := atoms_spec (ws := wsX5_pass) B.pre
  have hown : s.vm.findClass RX5 = some m.cls := findClass_of_methodNamed B.named
  have hlocks := B.notSynchronized
  subst hsz
  have hD := hD0.self (sz := s.heap.size)
  obtain ⟨A, hAe⟩ : ∃ A : Nat → Prop, va_A [(a_t, .inr (9, [.ref a_t_text, .int t_length, .int t_at, .int t_faulty])), (a_t_text, .inl (y 1, 60, .inl t_text))] s.heap.size = A := ⟨_, rfl⟩
  rw [hAe] at hD
  have hA : ∀ q, s.heap.size ≤ q → A q := fun q h => by rw [← hAe]; exact Or.inr h
  have hS : va_S A s.heap s.heap [] := va_S.rf
  refine W_q (R1 := (rmq 1 20)) rfl (fun Q0 hQ0 => ?_)
  unfold F_X5_pass at hF
  refine W_entry hav (Nat.le_of_ble_eq_true rfl) (fun ls hl => ?_)
  have hl : lv_has ls 2 [(0, .ref a_t), (1, .int p1)] := hl
  refine lv_aload_n hx hb dX5_pass_0 rfl (lv_at hl 0 rfl) ?_
  refine va_get (D := D) (ci := 9) (v := .int t_faulty) (C := RX5) (T := TX5) (N := 4) hx hb hts iX5_pass_X5 hown hK hP 0 rfl rfl 3 (by decide) (hts (.fieldLink RX5 22 "SkipArchive$Reader" "faulty" "Z") (List.mem_of_getElem? (i := 1) rfl)) (fun _ h9 => h9) rfl dX5_pass_1 ?_
  refine lv_if_ne (tgt := 15) hx hb dX5_pass_4 (by decide) (fun c_4 => ?_) (fun c_4 => ?_)
  · have hF := iff_ hF c_4
    refine lv_aload_n hx hb dX5_pass_15 rfl (lv_at hl 0 rfl) ?_
    refine lv_iconst (v := 1) hx hb dX5_pass_16 (by decide) ?_
    refine va_put (D := D) (ci := 9) (v := .int (1 : Int32)) (ty := .boolean) (C := RX5) (T := TX5) (N := 4) hx hb hts iX5_pass_X5 tyX5 tyX5_ok nmX5 hown hK hP hD hS 0 rfl rfl 3 (by decide) (hts (.fieldLink RX5 22 "SkipArchive$Reader" "faulty" "Z") (List.mem_of_getElem? (i := 1) rfl)) (fun _ h9 => h9) rfl (by decide +kernel) (by decide +kernel) (by decide +kernel) (Nat.le_of_ble_eq_true rfl) dX5_pass_17 (fun H locs hP hD hS => ?_)
    have hP : va_P D vwCl [(a_t, .inr (9, [.ref a_t_text, .int t_length, .int t_at, .int (1 : Int32)])), (a_t_text, .inl (y 1, 60, .inl t_text))] H := hP
    have hD : va_D A [(a_t, .inr (9, [.ref a_t_text, .int t_length, .int t_at, .int (1 : Int32)])), (a_t_text, .inl (y 1, 60, .inl t_text))] := hD
    refine lv_iconst (v := 0) hx hb dX5_pass_20 (by decide) ?_
    obtain ⟨e0_21, e1_21, e2_21⟩ := inj3 hF
    rw [← e0_21, ← e1_21, ← e2_21] at hQ0
    rw [hQ0]
    exact ret_z hx hb hr (by decide +kernel) hlocks hAe hK hP hD hS [0, 1] rfl rfl dX5_pass_21
  · have hF := ift hF c_4
    refine lv_aload_n hx hb dX5_pass_7 rfl (lv_at hl 0 rfl) ?_
    obtain ⟨r_8, hq_8, hF⟩ := bn_i hF
    refine cr_V (As := []) (rest := []) ⟨hx, hb, hml, hown, hts⟩ (c_X5_look l D y fl a_t a_t_text t_length t_at t_faulty t_text r_8 hq_8) (cwV 0 hts gX5_pass_X5_look rfl rfl rfl (by decide +kernel) ⟨Nat.le_of_ble_eq_true rfl, Nat.le_of_ble_eq_true rfl⟩) hK hP [0, 1] rfl rfl rfl rfl hl.1 rfl (Nat.le_of_ble_eq_true rfl) dX5_pass_8 ⟨Nat.le_of_ble_eq_true rfl, Nat.le_of_ble_eq_true rfl⟩ ?_
    refine lv_iload_n hx hb dX5_pass_11 rfl (lv_at hl 1 rfl) ?_
    refine lv_icmp_eq (tgt := 22) hx hb dX5_pass_12 (by decide) (fun c_12 => ?_) (fun c_12 => ?_)
    · have hF := ift hF c_12
      refine lv_aload_n hx hb dX5_pass_22 rfl (lv_at hl 0 rfl) ?_
      refine lv_dup hx hb dX5_pass_23 rfl ?_
      refine va_get (D := D) (ci := 9) (v := .int t_at) (C := RX5) (T := TX5) (N := 4) hx hb hts iX5_pass_X5 hown hK hP 0 rfl rfl 2 (by decide) (hts (.fieldLink RX5 19 "SkipArchive$Reader" "at" "I") (List.mem_of_getElem? (i := 2) rfl)) (fun _ h9 => h9) rfl dX5_pass_24 ?_
      refine lv_iconst (v := 1) hx hb dX5_pass_27 (by decide) ?_
      refine lv_iadd hx hb dX5_pass_28 ?_
      refine va_put (D := D) (ci := 9) (v := .int (t_at + (1 : Int32))) (ty := .int) (C := RX5) (T := TX5) (N := 4) hx hb hts iX5_pass_X5 tyX5 tyX5_ok nmX5 hown hK hP hD hS 0 rfl rfl 2 (by decide) (hts (.fieldLink RX5 19 "SkipArchive$Reader" "at" "I") (List.mem_of_getElem? (i := 2) rfl)) (fun _ h9 => h9) rfl (by decide +kernel) rfl rfl (Nat.le_of_ble_eq_true rfl) dX5_pass_29 (fun H locs hP hD hS => ?_)
      have hP : va_P D vwCl [(a_t, .inr (9, [.ref a_t_text, .int t_length, .int (t_at + (1 : Int32)), .int t_faulty])), (a_t_text, .inl (y 1, 60, .inl t_text))] H := hP
      have hD : va_D A [(a_t, .inr (9, [.ref a_t_text, .int t_length, .int (t_at + (1 : Int32)), .int t_faulty])), (a_t_text, .inl (y 1, 60, .inl t_text))] := hD
      refine lv_iconst (v := 1) hx hb dX5_pass_32 (by decide) ?_
      obtain ⟨e0_33, e1_33, e2_33⟩ := inj3 hF
      rw [← e0_33, ← e1_33, ← e2_33] at hQ0
      rw [hQ0]
      exact ret_z hx hb hr (by decide +kernel) hlocks hAe hK hP hD hS [0, 1] rfl rfl dX5_pass_33
    · have hF := iff_ hF c_12
      refine lv_aload_n hx hb dX5_pass_15 rfl (lv_at hl 0 rfl) ?_
      refine lv_iconst (v := 1) hx hb dX5_pass_16 (by decide) ?_
      refine va_put (D := D) (ci := 9) (v := .int (1 : Int32)) (ty := .boolean) (C := RX5) (T := TX5) (N := 4) hx hb hts iX5_pass_X5 tyX5 tyX5_ok nmX5 hown hK hP hD hS 0 rfl rfl 3 (by decide) (hts (.fieldLink RX5 22 "SkipArchive$Reader" "faulty" "Z") (List.mem_of_getElem? (i := 1) rfl)) (fun _ h9 => h9) rfl (by decide +kernel) (by decide +kernel) (by decide +kernel) (Nat.le_of_ble_eq_true rfl) dX5_pass_17 (fun H locs hP hD hS => ?_)
      have hP : va_P D vwCl [(a_t, .inr (9, [.ref a_t_text, .int t_length, .int t_at, .int (1 : Int32)])), (a_t_text, .inl (y 1, 60, .inl t_text))] H := hP
      have hD : va_D A [(a_t, .inr (9, [.ref a_t_text, .int t_length, .int t_at, .int (1 : Int32)])), (a_t_text, .inl (y 1, 60, .inl t_text))] := hD
      refine lv_iconst (v := 0) hx hb dX5_pass_20 (by decide) ?_
      obtain ⟨e0_21, e1_21, e2_21⟩ := inj3 hF
      rw [← e0_21, ← e1_21, ← e2_21] at hQ0
      rw [hQ0]
      exact ret_z hx hb hr (by decide +kernel) hlocks hAe hK hP hD hS [0, 1] rfl rfl dX5_pass_21
def F_X5_readNumber_4 (fl : Nat) (t_length : Int32) (t_text : Nat → Int32) : Nat → Int32 → Int32 → Int32 → Int32 → Int32 → Option (Int32 × Int32 × Int32)
  | 0, _, _, _, _, _ => none
  | n + 1, t_at_w, t_faulty_w, x1, x2, x3 => if t_faulty_w = 0 then (if x1 ≤ x3 then (if x3 = 0 then (some (x2, t_at_w, (1 : Int32))) else (some (x2, t_at_w, t_faulty_w))) else (bn (F_X5_look fl t_length t_at_w t_text) fun r_17 => bn (F_X5_isDigit fl r_17) fun r_20 => if r_20 = 0 then (if x3 = 0 then (some (x2, t_at_w, (1 : Int32))) else (some (x2, t_at_w, t_faulty_w))) else (bn (F_X5_look fl t_length t_at_w t_text) fun r_31 => F_X5_readNumber_4 fl t_length t_text n (t_at_w + (1 : Int32)) t_faulty_w x1 ((((10 : Int32) * x2) + r_31) - (48 : Int32)) (x3 + (1 : Int32))))) else (if x3 = 0 then (some (x2, t_at_w, (1 : Int32))) else (some (x2, t_at_w, t_faulty_w)))
def F_X5_readNumber (fl : Nat) (t_length : Int32) (t_at : Int32) (t_faulty : Int32) (t_text : Nat → Int32) (p1 : Int32) : Option (Int32 × Int32 × Int32) := F_X5_readNumber_4 fl t_length t_text fl t_at t_faulty p1 (0 : Int32) (0 : Int32)
theorem iX5_readNumber_X5 : ∀ w ∈ u_ws RX5 TX5 4, w ∈ wsX5_readNumber := fun w h => List.mem_cons_of_mem _ (List.mem_append_left _ (List.mem_append_right _ h))
set_option maxHeartbeats 4000000 in
set_option maxRecDepth 100000 in
theorem c_X5_readNumber (l : Launch) (D : va_G) (y : Nat → ClassId) (fl : Nat) (sz : Nat) (a_t : Nat) (a_t_text : Nat) (t_length : Int32) (t_at : Int32) (t_faulty : Int32) (t_text : Nat → Int32) (p1 : Int32) (r : Int32) (t_at' : Int32) (t_faulty' : Int32) (hF : F_X5_readNumber fl t_length t_at t_faulty t_text p1 = some (r, t_at', t_faulty')) : Met l yX5_readNumber wsX5_readNumber (rmq 1 20) (wrP D y [(a_t, .inr (9, [.ref a_t_text, .int t_length, .int t_at, .int t_faulty])), (a_t_text, .inl (y 1, 60, .inl t_text))] sz [.ref a_t, .int p1]) (wQi D y r [(a_t, .inr (9, [.ref a_t_text, .int t_length, .int t_at', .int t_faulty'])), (a_t_text, .inl (y 1, 60, .inl t_text))] [(a_t, .inr (9, [.ref a_t_text, .int t_length, .int t_at, .int t_faulty])), (a_t_text, .inl (y 1, 60, .inl t_text))] sz) 0 0 (va_A [(a_t, .inr (9, [.ref a_t_text, .int t_length, .int t_at, .int t_faulty])), (a_t_text, .inl (y 1, 60, .inl t_text))] sz) := by
  refine Met.ofW (cc := cX5_readNumber) (maxL := 4) (ret := (some .int)) (by decide) rfl ?_
  intro p e s m args below meth c s₁ B hml hv
  obtain ⟨hav, hsz, hP, hK, hD0⟩ := hv
  have hx := B.exec
  have hb := B.bytes
  have hr := B.returns
  have hts := atoms_spec (ws := wsX5_readNumber) B.pre
  have hown : s.vm.findClass RX5 = some m.cls := findClass_of_methodNamed B.named
  have hlocks := B.notSynchronized
  subst hsz
  have hD := hD0.self (sz := s.heap.size)
  obtain ⟨A, hAe⟩ : ∃ A : Nat → Prop, va_A [(a_t, .inr (9, [.ref a_t_text, .int t_length, .int t_at, .int t_faulty])), (a_t_text, .inl (y 1, 60, .inl t_text))] s.heap.size = A := ⟨_, rfl⟩
  rw [hAe] at hD
  have hA : ∀ q, s.heap.size ≤ q → A q := fun q h => by rw [← hAe]; exact Or.inr h
  have hS : va_S A s.heap s.heap [] := va_S.rf
  refine W_q (R1 := (rmq 1 20)) rfl (fun Q0 hQ0 => ?_)
  unfold F_X5_readNumber at hF
  have k_4 : ∀ (n : Nat) (t_at_w : Int32) (t_faulty_w : Int32) (x1 : Int32) (x2 : Int32) (x3 : Int32), F_X5_readNumber_4 fl t_length t_text n t_at_w t_faulty_w x1 x2 x3 = some (r, t_at', t_faulty') → ∀ (H : Heap) (locs : List Loc), va_P D vwCl [(a_t, .inr (9, [.ref a_t_text, .int t_length, .int t_at_w, .int t_faulty_w])), (a_t_text, .inl (y 1, 60, .inl t_text))] H → va_D A [(a_t, .inr (9, [.ref a_t_text, .int t_length, .int t_at_w, .int t_faulty_w])), (a_t_text, .inl (y 1, 60, .inl t_text))] → va_S A s.heap H locs → ∀ (ls : Array Slot), lv_has ls 4 [(0, .ref a_t), (1, .int x1), (2, .int x2), (3, .int x3)] → W p l e (rmq 1 20) s m args below meth c H locs 0 0 Q0 (F0 m 4 ls []) := by
    intro n
    induction n with
    | zero => intro t_at_w t_faulty_w x1 x2 x3 hF; rw [F_X5_readNumber_4] at hF; cases hF
    | succ n ih =>
      intro t_at_w t_faulty_w x1 x2 x3 hF H locs hP hD hS ls hl
      rw [F_X5_readNumber_4] at hF
      refine lv_aload_n hx hb dX5_readNumber_4 rfl (lv_at hl 0 rfl) ?_
      refine va_get (D := D) (ci := 9) (v := .int t_faulty_w) (C := RX5) (T := TX5) (N := 4) hx hb hts iX5_readNumber_X5 hown hK hP 0 rfl rfl 3 (by decide) (hts (.fieldLink RX5 22 "SkipArchive$Reader" "faulty" "Z") (List.mem_of_getElem? (i := 1) rfl)) (fun _ h9 => h9) rfl dX5_readNumber_5 ?_
      refine lv_if_ne (tgt := 55) hx hb dX5_readNumber_8 (by decide) (fun c_8 => ?_) (fun c_8 => ?_)
      · have hF := iff_ hF c_8
        refine lv_iload_n hx hb dX5_readNumber_55 rfl (lv_at hl 3 rfl) ?_
        refine lv_if_ne (tgt := 64) hx hb dX5_readNumber_56 (by decide) (fun c_56 => ?_) (fun c_56 => ?_)
        · have hF := iff_ hF c_56
          refine lv_iload_n hx hb dX5_readNumber_64 rfl (lv_at hl 2 rfl) ?_
          obtain ⟨e0_65, e1_65, e2_65⟩ := inj3 hF
          rw [← e0_65, ← e1_65, ← e2_65] at hQ0
          rw [hQ0]
          exact ret_i hx hb hr hlocks hAe hK hP hD hS [0, 1] rfl rfl dX5_readNumber_65
        · have hF := ift hF c_56
          refine lv_aload_n hx hb dX5_readNumber_59 rfl (lv_at hl 0 rfl) ?_
          refine lv_iconst (v := 1) hx hb dX5_readNumber_60 (by decide) ?_
          refine va_put (D := D) (ci := 9) (v := .int (1 : Int32)) (ty := .boolean) (C := RX5) (T := TX5) (N := 4) hx hb hts iX5_readNumber_X5 tyX5 tyX5_ok nmX5 hown hK hP hD hS 0 rfl rfl 3 (by decide) (hts (.fieldLink RX5 22 "SkipArchive$Reader" "faulty" "Z") (List.mem_of_getElem? (i := 1) rfl)) (fun _ h9 => h9) rfl (by decide +kernel) (by decide +kernel) (by decide +kernel) (Nat.le_of_ble_eq_true rfl) dX5_readNumber_61 (fun H locs hP hD hS => ?_)
          have hP : va_P D vwCl [(a_t, .inr (9, [.ref a_t_text, .int t_length, .int t_at_w, .int (1 : Int32)])), (a_t_text, .inl (y 1, 60, .inl t_text))] H := hP
          have hD : va_D A [(a_t, .inr (9, [.ref a_t_text, .int t_length, .int t_at_w, .int (1 : Int32)])), (a_t_text, .inl (y 1, 60, .inl t_text))] := hD
          refine lv_iload_n hx hb dX5_readNumber_64 rfl (lv_at hl 2 rfl) ?_
          obtain ⟨e0_65, e1_65, e2_65⟩ := inj3 hF
          rw [← e0_65, ← e1_65, ← e2_65] at hQ0
          rw [hQ0]
          exact ret_i hx hb hr hlocks hAe hK hP hD hS [0, 1] rfl rfl dX5_readNumber_65
      · have hF := ift hF c_8
        refine lv_iload_n hx hb dX5_readNumber_11 rfl (lv_at hl 3 rfl) ?_
        refine lv_iload_n hx hb dX5_readNumber_12 rfl (lv_at hl 1 rfl) ?_
        refine lv_icmp_ge (tgt := 55) hx hb dX5_readNumber_13 (by decide) (fun c_13 => ?_) (fun c_13 => ?_)
        · have hF := ift hF c_13
          refine lv_iload_n hx hb dX5_readNumber_55 rfl (lv_at hl 3 rfl) ?_
          refine lv_if_ne (tgt := 64) hx hb dX5_readNumber_56 (by decide) (fun c_56b => ?_) (fun c_56b => ?_)
          · have hF := iff_ hF c_56b
            refine lv_iload_n hx hb dX5_readNumber_64 rfl (lv_at hl 2 rfl) ?_
            obtain ⟨e0_65, e1_65, e2_65⟩ := inj3 hF
            rw [← e0_65, ← e1_65, ← e2_65] at hQ0
            rw [hQ0]
            exact ret_i hx hb hr hlocks hAe hK hP hD hS [0, 1] rfl rfl dX5_readNumber_65
          · have hF := ift hF c_56b
            refine lv_aload_n hx hb dX5_readNumber_59 rfl (lv_at hl 0 rfl) ?_
            refine lv_iconst (v := 1) hx hb dX5_readNumber_60 (by decide) ?_
            refine va_put (D := D) (ci := 9) (v := .int (1 : Int32)) (ty := .boolean) (C := RX5) (T := TX5) (N := 4) hx hb hts iX5_readNumber_X5 tyX5 tyX5_ok nmX5 hown hK hP hD hS 0 rfl rfl 3 (by decide) (hts (.fieldLink RX5 22 "SkipArchive$Reader" "faulty" "Z") (List.mem_of_getElem? (i := 1) rfl)) (fun _ h9 => h9) rfl (by decide +kernel) (by decide +kernel) (by decide +kernel) (Nat.le_of_ble_eq_true rfl) dX5_readNumber_61 (fun H locs hP hD hS => ?_)
            have hP : va_P D vwCl [(a_t, .inr (9, [.ref a_t_text, .int t_length, .int t_at_w, .int (1 : Int32)])), (a_t_text, .inl (y 1, 60, .inl t_text))] H := hP
            have hD : va_D A [(a_t, .inr (9, [.ref a_t_text, .int t_length, .int t_at_w, .int (1 : Int32)])), (a_t_text, .inl (y 1, 60, .inl t_text))] := hD
            refine lv_iload_n hx hb dX5_readNumber_64 rfl (lv_at hl 2 rfl) ?_
            obtain ⟨e0_65, e1_65, e2_65⟩ := inj3 hF
            rw [← e0_65, ← e1_65, ← e2_65] at hQ0
            rw [hQ0]
            exact ret_i hx hb hr hlocks hAe hK hP hD hS [0, 1] rfl rfl dX5_readNumber_65
        · have hF := iff_ hF c_13
          refine lv_aload_n hx hb dX5_readNumber_16 rfl (lv_at hl 0 rfl) ?_
          obtain ⟨r_17, hq_17, hF⟩ := bn_i hF
          refine cr_V (As := []) (rest := []) ⟨hx, hb, hml, hown, hts⟩ (c_X5_look l D y fl a_t a_t_text t_length t_at_w t_faulty_w t_text r_17 hq_17) (cwV 0 hts gX5_readNumber_X5_look rfl rfl rfl (by decide +kernel) ⟨Nat.le_of_ble_eq_true rfl, Nat.le_of_ble_eq_true rfl⟩) hK hP [0, 1] rfl rfl rfl rfl hl.1 rfl (Nat.le_of_ble_eq_true rfl) dX5_readNumber_17 ⟨Nat.le_of_ble_eq_true rfl, Nat.le_of_ble_eq_true rfl⟩ ?_
          obtain ⟨r_20, hq_20, hF⟩ := bn_i hF
          refine cr_S (As := [.int r_17]) (rest := []) ⟨hx, hb, hml, hown, hts⟩ (c_X5_isDigit l D y fl r_17 r_20 hq_20) (va_cwS 1 hts gX5_readNumber_X5_isDigit rfl rfl rfl (by decide +kernel) ⟨Nat.le_of_ble_eq_true rfl, Nat.le_of_ble_eq_true rfl⟩) hK hP [] rfl rfl hl.1 rfl (Nat.le_of_ble_eq_true rfl) dX5_readNumber_20 ⟨Nat.le_of_ble_eq_true rfl, Nat.le_of_ble_eq_true rfl⟩ ?_
          refine lv_if_eq (tgt := 55) hx hb dX5_readNumber_23 (by decide) (fun c_23 => ?_) (fun c_23 => ?_)
          · have hF := ift hF c_23
            refine lv_iload_n hx hb dX5_readNumber_55 rfl (lv_at hl 3 rfl) ?_
            refine lv_if_ne (tgt := 64) hx hb dX5_readNumber_56 (by decide) (fun c_56bb => ?_) (fun c_56bb => ?_)
            · have hF := iff_ hF c_56bb
              refine lv_iload_n hx hb dX5_readNumber_64 rfl (lv_at hl 2 rfl) ?_
              obtain ⟨e0_65, e1_65, e2_65⟩ := inj3 hF
              rw [← e0_65, ← e1_65, ← e2_65] at hQ0
              rw [hQ0]
              exact ret_i hx hb hr hlocks hAe hK hP hD hS [0, 1] rfl rfl dX5_readNumber_65
            · have hF := ift hF c_56bb
              refine lv_aload_n hx hb dX5_readNumber_59 rfl (lv_at hl 0 rfl) ?_
              refine lv_iconst (v := 1) hx hb dX5_readNumber_60 (by decide) ?_
              refine va_put (D := D) (ci := 9) (v := .int (1 : Int32)) (ty := .boolean) (C := RX5) (T := TX5) (N := 4) hx hb hts iX5_readNumber_X5 tyX5 tyX5_ok nmX5 hown hK hP hD hS 0 rfl rfl 3 (by decide) (hts (.fieldLink RX5 22 "SkipArchive$Reader" "faulty" "Z") (List.mem_of_getElem? (i := 1) rfl)) (fun _ h9 => h9) rfl (by decide +kernel) (by decide +kernel) (by decide +kernel) (Nat.le_of_ble_eq_true rfl) dX5_readNumber_61 (fun H locs hP hD hS => ?_)
              have hP : va_P D vwCl [(a_t, .inr (9, [.ref a_t_text, .int t_length, .int t_at_w, .int (1 : Int32)])), (a_t_text, .inl (y 1, 60, .inl t_text))] H := hP
              have hD : va_D A [(a_t, .inr (9, [.ref a_t_text, .int t_length, .int t_at_w, .int (1 : Int32)])), (a_t_text, .inl (y 1, 60, .inl t_text))] := hD
              refine lv_iload_n hx hb dX5_readNumber_64 rfl (lv_at hl 2 rfl) ?_
              obtain ⟨e0_65, e1_65, e2_65⟩ := inj3 hF
              rw [← e0_65, ← e1_65, ← e2_65] at hQ0
              rw [hQ0]
              exact ret_i hx hb hr hlocks hAe hK hP hD hS [0, 1] rfl rfl dX5_readNumber_65
          · have hF := iff_ hF c_23
            refine lv_bipush (v := 10) hx hb dX5_readNumber_26 (by decide) ?_
            refine lv_iload_n hx hb dX5_readNumber_28 rfl (lv_at hl 2 rfl) ?_
            refine lv_imul hx hb dX5_readNumber_29 ?_
            refine lv_aload_n hx hb dX5_readNumber_30 rfl (lv_at hl 0 rfl) ?_
            obtain ⟨r_31, hq_31, hF⟩ := bn_i hF
            refine cr_V (As := []) (rest := [.int ((10 : Int32) * x2)]) ⟨hx, hb, hml, hown, hts⟩ (c_X5_look l D y fl a_t a_t_text t_length t_at_w t_faulty_w t_text r_31 hq_31) (cwV 0 hts gX5_readNumber_X5_look rfl rfl rfl (by decide +kernel) ⟨Nat.le_of_ble_eq_true rfl, Nat.le_of_ble_eq_true rfl⟩) hK hP [0, 1] rfl rfl rfl rfl hl.1 rfl (Nat.le_of_ble_eq_true rfl) dX5_readNumber_31 ⟨Nat.le_of_ble_eq_true rfl, Nat.le_of_ble_eq_true rfl⟩ ?_
            refine lv_iadd hx hb dX5_readNumber_34 ?_
            refine lv_bipush (v := 48) hx hb dX5_readNumber_35 (by decide) ?_
            refine lv_isub hx hb dX5_readNumber_37 ?_
            refine lv_istore_n (lv' := [(2, .int ((((10 : Int32) * x2) + r_31) - (48 : Int32))), (0, .ref a_t), (1, .int x1), (3, .int x3)]) hx hb dX5_readNumber_38 rfl hl (by decide) rfl (fun ls hl => ?_)
            refine lv_iinc (v := x3 + (1 : Int32)) (lv' := [(3, .int (x3 + (1 : Int32))), (2, .int ((((10 : Int32) * x2) + r_31) - (48 : Int32))), (0, .ref a_t), (1, .int x1)]) hx hb dX5_readNumber_39 hl (k := 3) rfl rfl (by decide) rfl (fun ls hl => ?_)
            refine lv_aload_n hx hb dX5_readNumber_42 rfl (lv_at hl 2 rfl) ?_
            refine lv_dup hx hb dX5_readNumber_43 rfl ?_
            refine va_get (D := D) (ci := 9) (v := .int t_at_w) (C := RX5) (T := TX5) (N := 4) hx hb hts iX5_readNumber_X5 hown hK hP 0 rfl rfl 2 (by decide) (hts (.fieldLink RX5 19 "SkipArchive$Reader" "at" "I") (List.mem_of_getElem? (i := 2) rfl)) (fun _ h9 => h9) rfl dX5_readNumber_44 ?_
            refine lv_iconst (v := 1) hx hb dX5_readNumber_47 (by decide) ?_
            refine lv_iadd hx hb dX5_readNumber_48 ?_
            refine va_put (D := D) (ci := 9) (v := .int (t_at_w + (1 : Int32))) (ty := .int) (C := RX5) (T := TX5) (N := 4) hx hb hts iX5_readNumber_X5 tyX5 tyX5_ok nmX5 hown hK hP hD hS 0 rfl rfl 2 (by decide) (hts (.fieldLink RX5 19 "SkipArchive$Reader" "at" "I") (List.mem_of_getElem? (i := 2) rfl)) (fun _ h9 => h9) rfl (by decide +kernel) rfl rfl (Nat.le_of_ble_eq_true rfl) dX5_readNumber_49 (fun H locs hP hD hS => ?_)
            have hP : va_P D vwCl [(a_t, .inr (9, [.ref a_t_text, .int t_length, .int (t_at_w + (1 : Int32)), .int t_faulty_w])), (a_t_text, .inl (y 1, 60, .inl t_text))] H := hP
            have hD : va_D A [(a_t, .inr (9, [.ref a_t_text, .int t_length, .int (t_at_w + (1 : Int32)), .int t_faulty_w])), (a_t_text, .inl (y 1, 60, .inl t_text))] := hD
            refine lv_goto (tgt := 4) hx hb dX5_readNumber_52 (by decide) ?_
            exact ih (t_at_w + (1 : Int32)) t_faulty_w x1 ((((10 : Int32) * x2) + r_31) - (48 : Int32)) (x3 + (1 : Int32)) hF _ _ hP hD hS ls (lv_sub hl [2, 3, 1, 0] rfl)
  refine W_entry hav (Nat.le_of_ble_eq_true rfl) (fun ls hl => ?_)
  have hl : lv_has ls 4 [(0, .ref a_t), (1, .int p1)] := hl
  refine lv_iconst (v := 0) hx hb dX5_readNumber_0 (by decide) ?_
  refine lv_istore_n (lv' := [(2, .int (0 : Int32)), (0, .ref a_t), (1, .int p1)]) hx hb dX5_readNumber_1 rfl hl (by decide) rfl (fun ls hl => ?_)
  refine lv_iconst (v := 0) hx hb dX5_readNumber_2 (by decide) ?_
  refine lv_istore_n (lv' := [(3, .int (0 : Int32)), (2, .int (0 : Int32)), (0, .ref a_t), (1, .int p1)]) hx hb dX5_readNumber_3 rfl hl (by decide) rfl (fun ls hl => ?_)
  exact k_4 fl t_at t_faulty p1 (0 : Int32) (0 : Int32) hF _ _ hP hD hS ls (lv_sub hl [2, 3, 1, 0] rfl)
def F_X5_readKeyAndWeight (fl : Nat) (t_length : Int32) (t_at : Int32) (t_faulty : Int32) (t_text : Nat → Int32) (o1_sign : Int32) (o1_number : Int32) (o1_weight : Int32) (o1_rungs : Int32) (p2 : Int32) : Option (Int32 × Int32 × Int32 × Int32 × Int32 × Int32) := bn3 (F_X5_readNumber fl t_length t_at t_faulty t_text (3 : Int32)) fun r_2 t_at_2 t_faulty_2 => bn3 (F_X5_pass fl t_length t_at_2 t_faulty_2 t_text (61 : Int32)) fun r_9 t_at_9 t_faulty_9 => bn3 (F_X5_readNumber fl t_length t_at_9 t_faulty_9 t_text (2 : Int32)) fun r_18 t_at_18 t_faulty_18 => bn4 (F_X4_tell fl o1_sign o1_number o1_weight o1_rungs p2 r_2 r_18 (1 : Int32)) fun o1_sign_22 o1_number_22 o1_weight_22 o1_rungs_22 => some (t_at_18, t_faulty_18, o1_sign_22, o1_number_22, o1_weight_22, o1_rungs_22)
set_option maxHeartbeats 4000000 in
set_option maxRecDepth 100000 in
theorem c_X5_readKeyAndWeight (l : Launch) (D : va_G) (y : Nat → ClassId) (fl : Nat) (sz : Nat) (a_t : Nat) (a_t_text : Nat) (a_o1 : Nat) (t_length : Int32) (t_at : Int32) (t_faulty : Int32) (t_text : Nat → Int32) (o1_sign : Int32) (o1_number : Int32) (o1_weight : Int32) (o1_rungs : Int32) (p2 : Int32) (t_at' : Int32) (t_faulty' : Int32) (o1_sign' : Int32) (o1_number' : Int32) (o1_weight' : Int32) (o1_rungs' : Int32) (hF : F_X5_readKeyAndWeight fl t_length t_at t_faulty t_text o1_sign o1_number o1_weight o1_rungs p2 = some (t_at', t_faulty', o1_sign', o1_number', o1_weight', o1_rungs')) : Met l yX5_readKeyAndWeight wsX5_readKeyAndWeight (rmq 2 43) (wrP D y [(a_t, .inr (9, [.ref a_t_text, .int t_length, .int t_at, .int t_faulty])), (a_t_text, .inl (y 1, 60, .inl t_text)), (a_o1, .inr (8, [.int o1_sign, .int o1_number, .int o1_weight, .int o1_rungs]))] sz [.ref a_t, .ref a_o1, .int p2]) (wQv D y [(a_t, .inr (9, [.ref a_t_text, .int t_length, .int t_at', .int t_faulty'])), (a_t_text, .inl (y 1, 60, .inl t_text)), (a_o1, .inr (8, [.int o1_sign', .int o1_number', .int o1_weight', .int o1_rungs']))] [(a_t, .inr (9, [.ref a_t_text, .int t_length, .int t_at, .int t_faulty])), (a_t_text, .inl (y 1, 60, .inl t_text)), (a_o1, .inr (8, [.int o1_sign, .int o1_number, .int o1_weight, .int o1_rungs]))] sz) 0 0 (va_A [(a_t, .inr (9, [.ref a_t_text, .int t_length, .int t_at, .int t_faulty])), (a_t_text, .inl (y 1, 60, .inl t_text)), (a_o1, .inr (8, [.int o1_sign, .int o1_number, .int o1_weight, .int o1_rungs]))] sz) := by
  refine Met.ofW (cc := cX5_readKeyAndWeight) (maxL := 4) (ret := none) (by decide) rfl ?_
  intro p e s m args below meth c s₁ B hml hv
  obtain ⟨hav, hsz, hP, hK, hD0⟩ := hv
  have hx := B.exec
  have hb := B.bytes
  have hr := B.returns
  have hts := atoms_spec (ws := wsX5_readKeyAndWeight) B.pre
  have hown : s.vm.findClass RX5 = some m.cls := findClass_of_methodNamed B.named
  have hlocks := B.notSynchronized
  subst hsz
  have hD := hD0.self (sz := s.heap.size)
  obtain ⟨A, hAe⟩ : ∃ A : Nat → Prop, va_A [(a_t, .inr (9, [.ref a_t_text, .int t_length, .int t_at, .int t_faulty])), (a_t_text, .inl (y 1, 60, .inl t_text)), (a_o1, .inr (8, [.int o1_sign, .int o1_number, .int o1_weight, .int o1_rungs]))] s.heap.size = A := ⟨_, rfl⟩
  rw [hAe] at hD
  have hA : ∀ q, s.heap.size ≤ q → A q := fun q h => by rw [← hAe]; exact Or.inr h
  have hS : va_S A s.heap s.heap [] := va_S.rf
  refine W_q (R1 := (rmq 2 43)) rfl (fun Q0 hQ0 => ?_)
  unfold F_X5_readKeyAndWeight at hF
  refine W_entry hav (Nat.le_of_ble_eq_true rfl) (fun ls hl => ?_)
  have hl : lv_has ls 4 [(0, .ref a_t), (1, .ref a_o1), (2, .int p2)] := hl
  refine lv_aload_n hx hb dX5_readKeyAndWeight_0 rfl (lv_at hl 0 rfl) ?_
  refine lv_iconst (v := 3) hx hb dX5_readKeyAndWeight_1 (by decide) ?_
  obtain ⟨r_2, t_at_2, t_faulty_2, hq_2, hF⟩ := bn3_i hF
  refine cm_Vi (As := [.int (3 : Int32)]) (rest := []) (wr := [(a_o1, .inr (8, [.int o1_sign, .int o1_number, .int o1_weight, .int o1_rungs]))]) ⟨hx, hb, hml, hown, hts⟩ (c_X5_readNumber l D y fl s.heap.size a_t a_t_text t_length t_at t_faulty t_text (3 : Int32) r_2 t_at_2 t_faulty_2 hq_2) (cwV 1 hts gX5_readKeyAndWeight_X5_readNumber rfl rfl rfl (by decide +kernel) ⟨Nat.le_of_ble_eq_true rfl, Nat.le_of_ble_eq_true rfl⟩) hK hP hD hS hA [0, 1] [2] rfl rfl rfl rfl (by decide) rfl rfl rfl hl.1 rfl (Nat.le_of_ble_eq_true rfl) dX5_readKeyAndWeight_2 ⟨Nat.le_of_ble_eq_true rfl, Nat.le_of_ble_eq_true rfl⟩ (fun H locs hP hD hS => ?_)
  have hP : va_P D vwCl [(a_o1, .inr (8, [.int o1_sign, .int o1_number, .int o1_weight, .int o1_rungs])), (a_t, .inr (9, [.ref a_t_text, .int t_length, .int t_at_2, .int t_faulty_2])), (a_t_text, .inl (y 1, 60, .inl t_text))] H := hP
  have hD : va_D A [(a_o1, .inr (8, [.int o1_sign, .int o1_number, .int o1_weight, .int o1_rungs])), (a_t, .inr (9, [.ref a_t_text, .int t_length, .int t_at_2, .int t_faulty_2])), (a_t_text, .inl (y 1, 60, .inl t_text))] := hD
  refine lv_istore_n (lv' := [(3, .int r_2), (0, .ref a_t), (1, .ref a_o1), (2, .int p2)]) hx hb dX5_readKeyAndWeight_5 rfl hl (by decide) rfl (fun ls hl => ?_)
  refine lv_aload_n hx hb dX5_readKeyAndWeight_6 rfl (lv_at hl 1 rfl) ?_
  refine lv_bipush (v := 61) hx hb dX5_readKeyAndWeight_7 (by decide) ?_
  obtain ⟨r_9, t_at_9, t_faulty_9, hq_9, hF⟩ := bn3_i hF
  refine cm_Vi (As := [.int (61 : Int32)]) (rest := []) (wr := [(a_o1, .inr (8, [.int o1_sign, .int o1_number, .int o1_weight, .int o1_rungs]))]) ⟨hx, hb, hml, hown, hts⟩ (c_X5_pass l D y fl H.size a_t a_t_text t_length t_at_2 t_faulty_2 t_text (61 : Int32) r_9 t_at_9 t_faulty_9 hq_9) (cwV 1 hts gX5_readKeyAndWeight_X5_pass rfl rfl rfl (by decide +kernel) ⟨Nat.le_of_ble_eq_true rfl, Nat.le_of_ble_eq_true rfl⟩) hK hP hD hS hA [1, 2] [0] rfl rfl rfl rfl (by decide) rfl rfl rfl hl.1 rfl (Nat.le_of_ble_eq_true rfl) dX5_readKeyAndWeight_9 ⟨Nat.le_of_ble_eq_true rfl, Nat.le_of_ble_eq_true rfl⟩ (fun H locs hP hD hS => ?_)
  have hP : va_P D vwCl [(a_o1, .inr (8, [.int o1_sign, .int o1_number, .int o1_weight, .int o1_rungs])), (a_t, .inr (9, [.ref a_t_text, .int t_length, .int t_at_9, .int t_faulty_9])), (a_t_text, .inl (y 1, 60, .inl t_text))] H := hP
  have hD : va_D A [(a_o1, .inr (8, [.int o1_sign, .int o1_number, .int o1_weight, .int o1_rungs])), (a_t, .inr (9, [.ref a_t_text, .int t_length, .int t_at_9, .int t_faulty_9])), (a_t_text, .inl (y 1, 60, .inl t_text))] := hD
  refine lv_pop hx hb dX5_readKeyAndWeight_12 rfl ?_
  refine lv_aload_n hx hb dX5_readKeyAndWeight_13 rfl (lv_at hl 2 rfl) ?_
  refine lv_iload_n hx hb dX5_readKeyAndWeight_14 rfl (lv_at hl 3 rfl) ?_
  refine lv_iload_n hx hb dX5_readKeyAndWeight_15 rfl (lv_at hl 0 rfl) ?_
  refine lv_aload_n hx hb dX5_readKeyAndWeight_16 rfl (lv_at hl 1 rfl) ?_
  refine lv_iconst (v := 2) hx hb dX5_readKeyAndWeight_17 (by decide) ?_
  obtain ⟨r_18, t_at_18, t_faulty_18, hq_18, hF⟩ := bn3_i hF
  refine cm_Vi (As := [.int (2 : Int32)]) (rest := [.int r_2, .int p2, .ref a_o1]) (wr := [(a_o1, .inr (8, [.int o1_sign, .int o1_number, .int o1_weight, .int o1_rungs]))]) ⟨hx, hb, hml, hown, hts⟩ (c_X5_readNumber l D y fl H.size a_t a_t_text t_length t_at_9 t_faulty_9 t_text (2 : Int32) r_18 t_at_18 t_faulty_18 hq_18) (cwV 1 hts gX5_readKeyAndWeight_X5_readNumber rfl rfl rfl (by decide +kernel) ⟨Nat.le_of_ble_eq_true rfl, Nat.le_of_ble_eq_true rfl⟩) hK hP hD hS hA [1, 2] [0] rfl rfl rfl rfl (by decide) rfl rfl rfl hl.1 rfl (Nat.le_of_ble_eq_true rfl) dX5_readKeyAndWeight_18 ⟨Nat.le_of_ble_eq_true rfl, Nat.le_of_ble_eq_true rfl⟩ (fun H locs hP hD hS => ?_)
  have hP : va_P D vwCl [(a_o1, .inr (8, [.int o1_sign, .int o1_number, .int o1_weight, .int o1_rungs])), (a_t, .inr (9, [.ref a_t_text, .int t_length, .int t_at_18, .int t_faulty_18])), (a_t_text, .inl (y 1, 60, .inl t_text))] H := hP
  have hD : va_D A [(a_o1, .inr (8, [.int o1_sign, .int o1_number, .int o1_weight, .int o1_rungs])), (a_t, .inr (9, [.ref a_t_text, .int t_length, .int t_at_18, .int t_faulty_18])), (a_t_text, .inl (y 1, 60, .inl t_text))] := hD
  refine lv_iconst (v := 1) hx hb dX5_readKeyAndWeight_21 (by decide) ?_
  obtain ⟨o1_sign_22, o1_number_22, o1_weight_22, o1_rungs_22, hq_22, hF⟩ := bn4_i hF
  refine cm_Vv (As := [.int p2, .int r_2, .int r_18, .int (1 : Int32)]) (rest := []) (wr := [(a_t, .inr (9, [.ref a_t_text, .int t_length, .int t_at_18, .int t_faulty_18])), (a_t_text, .inl (y 1, 60, .inl t_text))]) ⟨hx, hb, hml, hown, hts⟩ (c_X4_tell l D y fl H.size a_o1 o1_sign o1_number o1_weight o1_rungs p2 r_2 r_18 (1 : Int32) o1_sign_22 o1_number_22 o1_weight_22 o1_rungs_22 hq_22) (cwV 4 hts gX5_readKeyAndWeight_X4_tell rfl rfl rfl (by decide +kernel) ⟨Nat.le_of_ble_eq_true rfl, Nat.le_of_ble_eq_true rfl⟩) hK hP hD hS hA [0] [1, 2] rfl rfl rfl rfl (by decide) rfl rfl rfl hl.1 rfl (Nat.le_of_ble_eq_true rfl) dX5_readKeyAndWeight_22 ⟨Nat.le_of_ble_eq_true rfl, Nat.le_of_ble_eq_true rfl⟩ (fun H locs hP hD hS => ?_)
  have hP : va_P D vwCl [(a_t, .inr (9, [.ref a_t_text, .int t_length, .int t_at_18, .int t_faulty_18])), (a_t_text, .inl (y 1, 60, .inl t_text)), (a_o1, .inr (8, [.int o1_sign_22, .int o1_number_22, .int o1_weight_22, .int o1_rungs_22]))] H := hP
  have hD : va_D A [(a_t, .inr (9, [.ref a_t_text, .int t_length, .int t_at_18, .int t_faulty_18])), (a_t_text, .inl (y 1, 60, .inl t_text)), (a_o1, .inr (8, [.int o1_sign_22, .int o1_number_22, .int o1_weight_22, .int o1_rungs_22]))] := hD
  obtain ⟨e0_25, e1_25, e2_25, e3_25, e4_25, e5_25⟩ := inj6 hF
  rw [← e0_25, ← e1_25, ← e2_25, ← e3_25, ← e4_25, ← e5_25] at hQ0
  rw [hQ0]
  exact ret_v hx hb hr hlocks hAe hK hP hD hS [0, 1, 2] rfl rfl dX5_readKeyAndWeight_25
def F_X5_readFiling (fl : Nat) (t_length : Int32) (t_at : Int32) (t_faulty : Int32) (t_text : Nat → Int32) (o1_sign : Int32) (o1_number : Int32) (o1_weight : Int32) (o1_rungs : Int32) : Option (Int32 × Int32 × Int32 × Int32 × Int32 × Int32) := bn6 (F_X5_readKeyAndWeight fl t_length (t_at + (1 : Int32)) t_faulty t_text o1_sign o1_number o1_weight o1_rungs (43 : Int32)) fun t_at_14 t_faulty_14 o1_sign_14 o1_number_14 o1_weight_14 o1_rungs_14 => if t_faulty_14 = 0 then (bn (F_X5_look fl t_length t_at_14 t_text) fun r_25 => if r_25 = (94 : Int32) then (bn (F_X4_number fl o1_number_14) fun r_47 => bn (F_X4_weight fl o1_weight_14) fun r_51 => bn3 (F_X5_readNumber fl t_length (t_at_14 + (1 : Int32)) t_faulty_14 t_text (1 : Int32)) fun r_56 t_at_56 t_faulty_56 => bn4 (F_X4_tell fl o1_sign_14 o1_number_14 o1_weight_14 o1_rungs_14 (94 : Int32) r_47 r_51 r_56) fun o1_sign_59 o1_number_59 o1_weight_59 o1_rungs_59 => some (t_at_56, t_faulty_56, o1_sign_59, o1_number_59, o1_weight_59, o1_rungs_59)) else (some (t_at_14, t_faulty_14, o1_sign_14, o1_number_14, o1_weight_14, o1_rungs_14))) else (some (t_at_14, t_faulty_14, o1_sign_14, o1_number_14, o1_weight_14, o1_rungs_14))
theorem iX5_readFiling_X5 : ∀ w ∈ u_ws RX5 TX5 4, w ∈ wsX5_readFiling := fun w h => List.mem_cons_of_mem _ (List.mem_append_left _ (List.mem_append_left _ (List.mem_append_right _ h)))
set_option maxHeartbeats 4000000 in
set_option maxRecDepth 100000 in
theorem c_X5_readFiling (l : Launch) (D : va_G) (y : Nat → ClassId) (fl : Nat) (sz : Nat) (a_t : Nat) (a_t_text : Nat) (a_o1 : Nat) (t_length : Int32) (t_at : Int32) (t_faulty : Int32) (t_text : Nat → Int32) (o1_sign : Int32) (o1_number : Int32) (o1_weight : Int32) (o1_rungs : Int32) (t_at' : Int32) (t_faulty' : Int32) (o1_sign' : Int32) (o1_number' : Int32) (o1_weight' : Int32) (o1_rungs' : Int32) (hF : F_X5_readFiling fl t_length t_at t_faulty t_text o1_sign o1_number o1_weight o1_rungs = some (t_at', t_faulty', o1_sign', o1_number', o1_weight', o1_rungs')) : Met l yX5_readFiling wsX5_readFiling (rmq 3 66) (wrP D y [(a_t, .inr (9, [.ref a_t_text, .int t_length, .int t_at, .int t_faulty])), (a_t_text, .inl (y 1, 60, .inl t_text)), (a_o1, .inr (8, [.int o1_sign, .int o1_number, .int o1_weight, .int o1_rungs]))] sz [.ref a_t, .ref a_o1]) (wQv D y [(a_t, .inr (9, [.ref a_t_text, .int t_length, .int t_at', .int t_faulty'])), (a_t_text, .inl (y 1, 60, .inl t_text)), (a_o1, .inr (8, [.int o1_sign', .int o1_number', .int o1_weight', .int o1_rungs']))] [(a_t, .inr (9, [.ref a_t_text, .int t_length, .int t_at, .int t_faulty])), (a_t_text, .inl (y 1, 60, .inl t_text)), (a_o1, .inr (8, [.int o1_sign, .int o1_number, .int o1_weight, .int o1_rungs]))] sz) 0 0 (va_A [(a_t, .inr (9, [.ref a_t_text, .int t_length, .int t_at, .int t_faulty])), (a_t_text, .inl (y 1, 60, .inl t_text)), (a_o1, .inr (8, [.int o1_sign, .int o1_number, .int o1_weight, .int o1_rungs]))] sz) := by
  refine Met.ofW (cc := cX5_readFiling) (maxL := 2) (ret := none) (by decide) rfl ?_
  intro p e s m args below meth c s₁ B hml hv
  obtain ⟨hav, hsz, hP, hK, hD0⟩ := hv
  have hx := B.exec
  have hb := B.bytes
  have hr := B.returns
  have hts := atoms_spec (ws := wsX5_readFiling) B.pre
  have hown : s.vm.findClass RX5 = some m.cls := findClass_of_methodNamed B.named
  have hlocks := B.notSynchronized
  subst hsz
  have hD := hD0.self (sz := s.heap.size)
  obtain ⟨A, hAe⟩ : ∃ A : Nat → Prop, va_A [(a_t, .inr (9, [.ref a_t_text, .int t_length, .int t_at, .int t_faulty])), (a_t_text, .inl (y 1, 60, .inl t_text)), (a_o1, .inr (8, [.int o1_sign, .int o1_number, .int o1_weight, .int o1_rungs]))] s.heap.size = A := ⟨_, rfl⟩
  rw [hAe] at hD
  have hA : ∀ q, s.heap.size ≤ q → A q := fun q h => by rw [← hAe]; exact Or.inr h
  have hS : va_S A s.heap s.heap [] := va_S.rf
  refine W_q (R1 := (rmq 3 66)) rfl (fun Q0 hQ0 => ?_)
  unfold F_X5_readFiling at hF
  refine W_entry hav (Nat.le_of_ble_eq_true rfl) (fun ls hl => ?_)
  have hl : lv_has ls 2 [(0, .ref a_t), (1, .ref a_o1)] := hl
  refine lv_aload_n hx hb dX5_readFiling_0 rfl (lv_at hl 0 rfl) ?_
  refine lv_dup hx hb dX5_readFiling_1 rfl ?_
  refine va_get (D := D) (ci := 9) (v := .int t_at) (C := RX5) (T := TX5) (N := 4) hx hb hts iX5_readFiling_X5 hown hK hP 0 rfl rfl 2 (by decide) (hts (.fieldLink RX5 19 "SkipArchive$Reader" "at" "I") (List.mem_of_getElem? (i := 1) rfl)) (fun _ h9 => h9) rfl dX5_readFiling_2 ?_
  refine lv_iconst (v := 1) hx hb dX5_readFiling_5 (by decide) ?_
  refine lv_iadd hx hb dX5_readFiling_6 ?_
  refine va_put (D := D) (ci := 9) (v := .int (t_at + (1 : Int32))) (ty := .int) (C := RX5) (T := TX5) (N := 4) hx hb hts iX5_readFiling_X5 tyX5 tyX5_ok nmX5 hown hK hP hD hS 0 rfl rfl 2 (by decide) (hts (.fieldLink RX5 19 "SkipArchive$Reader" "at" "I") (List.mem_of_getElem? (i := 1) rfl)) (fun _ h9 => h9) rfl (by decide +kernel) rfl rfl (Nat.le_of_ble_eq_true rfl) dX5_readFiling_7 (fun H locs hP hD hS => ?_)
  have hP : va_P D vwCl [(a_t, .inr (9, [.ref a_t_text, .int t_length, .int (t_at + (1 : Int32)), .int t_faulty])), (a_t_text, .inl (y 1, 60, .inl t_text)), (a_o1, .inr (8, [.int o1_sign, .int o1_number, .int o1_weight, .int o1_rungs]))] H := hP
  have hD : va_D A [(a_t, .inr (9, [.ref a_t_text, .int t_length, .int (t_at + (1 : Int32)), .int t_faulty])), (a_t_text, .inl (y 1, 60, .inl t_text)), (a_o1, .inr (8, [.int o1_sign, .int o1_number, .int o1_weight, .int o1_rungs]))] := hD
  refine lv_aload_n hx hb dX5_readFiling_10 rfl (lv_at hl 0 rfl) ?_
  refine lv_aload_n hx hb dX5_readFiling_11 rfl (lv_at hl 1 rfl) ?_
  refine lv_bipush (v := 43) hx hb dX5_readFiling_12 (by decide) ?_
  obtain ⟨t_at_14, t_faulty_14, o1_sign_14, o1_number_14, o1_weight_14, o1_rungs_14, hq_14, hF⟩ := bn6_i hF
  refine cm_Vv (As := [.ref a_o1, .int (43 : Int32)]) (rest := []) (wr := []) ⟨hx, hb, hml, hown, hts⟩ (c_X5_readKeyAndWeight l D y fl H.size a_t a_t_text a_o1 t_length (t_at + (1 : Int32)) t_faulty t_text o1_sign o1_number o1_weight o1_rungs (43 : Int32) t_at_14 t_faulty_14 o1_sign_14 o1_number_14 o1_weight_14 o1_rungs_14 hq_14) (cwV 2 hts gX5_readFiling_X5_readKeyAndWeight rfl rfl rfl (by decide +kernel) ⟨Nat.le_of_ble_eq_true rfl, Nat.le_of_ble_eq_true rfl⟩) hK hP hD hS hA [0, 1, 2] [] rfl rfl rfl rfl (by decide) rfl rfl rfl hl.1 rfl (Nat.le_of_ble_eq_true rfl) dX5_readFiling_14 ⟨Nat.le_of_ble_eq_true rfl, Nat.le_of_ble_eq_true rfl⟩ (fun H locs hP hD hS => ?_)
  have hP : va_P D vwCl [(a_t, .inr (9, [.ref a_t_text, .int t_length, .int t_at_14, .int t_faulty_14])), (a_t_text, .inl (y 1, 60, .inl t_text)), (a_o1, .inr (8, [.int o1_sign_14, .int o1_number_14, .int o1_weight_14, .int o1_rungs_14]))] H := hP
  have hD : va_D A [(a_t, .inr (9, [.ref a_t_text, .int t_length, .int t_at_14, .int t_faulty_14])), (a_t_text, .inl (y 1, 60, .inl t_text)), (a_o1, .inr (8, [.int o1_sign_14, .int o1_number_14, .int o1_weight_14, .int o1_rungs_14]))] := hD
  refine lv_aload_n hx hb dX5_readFiling_17 rfl (lv_at hl 0 rfl) ?_
  refine va_get (D := D) (ci := 9) (v := .int t_faulty_14) (C := RX5) (T := TX5) (N := 4) hx hb hts iX5_readFiling_X5 hown hK hP 0 rfl rfl 3 (by decide) (hts (.fieldLink RX5 22 "SkipArchive$Reader" "faulty" "Z") (List.mem_of_getElem? (i := 2) rfl)) (fun _ h9 => h9) rfl dX5_readFiling_18 ?_
  refine lv_if_ne (tgt := 62) hx hb dX5_readFiling_21 (by decide) (fun c_21 => ?_) (fun c_21 => ?_)
  · have hF := iff_ hF c_21
    obtain ⟨e0_62, e1_62, e2_62, e3_62, e4_62, e5_62⟩ := inj6 hF
    rw [← e0_62, ← e1_62, ← e2_62, ← e3_62, ← e4_62, ← e5_62] at hQ0
    rw [hQ0]
    exact ret_v hx hb hr hlocks hAe hK hP hD hS [0, 1, 2] rfl rfl dX5_readFiling_62
  · have hF := ift hF c_21
    refine lv_aload_n hx hb dX5_readFiling_24 rfl (lv_at hl 0 rfl) ?_
    obtain ⟨r_25, hq_25, hF⟩ := bn_i hF
    refine cr_V (As := []) (rest := []) ⟨hx, hb, hml, hown, hts⟩ (c_X5_look l D y fl a_t a_t_text t_length t_at_14 t_faulty_14 t_text r_25 hq_25) (cwV 0 hts gX5_readFiling_X5_look rfl rfl rfl (by decide +kernel) ⟨Nat.le_of_ble_eq_true rfl, Nat.le_of_ble_eq_true rfl⟩) hK hP [0, 1] rfl rfl rfl rfl hl.1 rfl (Nat.le_of_ble_eq_true rfl) dX5_readFiling_25 ⟨Nat.le_of_ble_eq_true rfl, Nat.le_of_ble_eq_true rfl⟩ ?_
    refine lv_bipush (v := 94) hx hb dX5_readFiling_28 (by decide) ?_
    refine lv_icmp_ne (tgt := 62) hx hb dX5_readFiling_30 (by decide) (fun c_30 => ?_) (fun c_30 => ?_)
    · have hF := iff_ hF c_30
      obtain ⟨e0_62, e1_62, e2_62, e3_62, e4_62, e5_62⟩ := inj6 hF
      rw [← e0_62, ← e1_62, ← e2_62, ← e3_62, ← e4_62, ← e5_62] at hQ0
      rw [hQ0]
      exact ret_v hx hb hr hlocks hAe hK hP hD hS [0, 1, 2] rfl rfl dX5_readFiling_62
    · have hF := ift hF c_30
      refine lv_aload_n hx hb dX5_readFiling_33 rfl (lv_at hl 0 rfl) ?_
      refine lv_dup hx hb dX5_readFiling_34 rfl ?_
      refine va_get (D := D) (ci := 9) (v := .int t_at_14) (C := RX5) (T := TX5) (N := 4) hx hb hts iX5_readFiling_X5 hown hK hP 0 rfl rfl 2 (by decide) (hts (.fieldLink RX5 19 "SkipArchive$Reader" "at" "I") (List.mem_of_getElem? (i := 1) rfl)) (fun _ h9 => h9) rfl dX5_readFiling_35 ?_
      refine lv_iconst (v := 1) hx hb dX5_readFiling_38 (by decide) ?_
      refine lv_iadd hx hb dX5_readFiling_39 ?_
      refine va_put (D := D) (ci := 9) (v := .int (t_at_14 + (1 : Int32))) (ty := .int) (C := RX5) (T := TX5) (N := 4) hx hb hts iX5_readFiling_X5 tyX5 tyX5_ok nmX5 hown hK hP hD hS 0 rfl rfl 2 (by decide) (hts (.fieldLink RX5 19 "SkipArchive$Reader" "at" "I") (List.mem_of_getElem? (i := 1) rfl)) (fun _ h9 => h9) rfl (by decide +kernel) rfl rfl (Nat.le_of_ble_eq_true rfl) dX5_readFiling_40 (fun H locs hP hD hS => ?_)
      have hP : va_P D vwCl [(a_t, .inr (9, [.ref a_t_text, .int t_length, .int (t_at_14 + (1 : Int32)), .int t_faulty_14])), (a_t_text, .inl (y 1, 60, .inl t_text)), (a_o1, .inr (8, [.int o1_sign_14, .int o1_number_14, .int o1_weight_14, .int o1_rungs_14]))] H := hP
      have hD : va_D A [(a_t, .inr (9, [.ref a_t_text, .int t_length, .int (t_at_14 + (1 : Int32)), .int t_faulty_14])), (a_t_text, .inl (y 1, 60, .inl t_text)), (a_o1, .inr (8, [.int o1_sign_14, .int o1_number_14, .int o1_weight_14, .int o1_rungs_14]))] := hD
      refine lv_aload_n hx hb dX5_readFiling_43 rfl (lv_at hl 1 rfl) ?_
      refine lv_bipush (v := 94) hx hb dX5_readFiling_44 (by decide) ?_
      refine lv_aload_n hx hb dX5_readFiling_46 rfl (lv_at hl 1 rfl) ?_
      obtain ⟨r_47, hq_47, hF⟩ := bn_i hF
      refine cr_V (As := []) (rest := [.int (94 : Int32), .ref a_o1]) ⟨hx, hb, hml, hown, hts⟩ (c_X4_number l D y fl a_o1 o1_sign_14 o1_number_14 o1_weight_14 o1_rungs_14 r_47 hq_47) (cwV 0 hts gX5_readFiling_X4_number rfl rfl rfl (by decide +kernel) ⟨Nat.le_of_ble_eq_true rfl, Nat.le_of_ble_eq_true rfl⟩) hK hP [2] rfl rfl rfl rfl hl.1 rfl (Nat.le_of_ble_eq_true rfl) dX5_readFiling_47 ⟨Nat.le_of_ble_eq_true rfl, Nat.le_of_ble_eq_true rfl⟩ ?_
      refine lv_aload_n hx hb dX5_readFiling_50 rfl (lv_at hl 1 rfl) ?_
      obtain ⟨r_51, hq_51, hF⟩ := bn_i hF
      refine cr_V (As := []) (rest := [.int r_47, .int (94 : Int32), .ref a_o1]) ⟨hx, hb, hml, hown, hts⟩ (c_X4_weight l D y fl a_o1 o1_sign_14 o1_number_14 o1_weight_14 o1_rungs_14 r_51 hq_51) (cwV 0 hts gX5_readFiling_X4_weight rfl rfl rfl (by decide +kernel) ⟨Nat.le_of_ble_eq_true rfl, Nat.le_of_ble_eq_true rfl⟩) hK hP [2] rfl rfl rfl rfl hl.1 rfl (Nat.le_of_ble_eq_true rfl) dX5_readFiling_51 ⟨Nat.le_of_ble_eq_true rfl, Nat.le_of_ble_eq_true rfl⟩ ?_
      refine lv_aload_n hx hb dX5_readFiling_54 rfl (lv_at hl 0 rfl) ?_
      refine lv_iconst (v := 1) hx hb dX5_readFiling_55 (by decide) ?_
      obtain ⟨r_56, t_at_56, t_faulty_56, hq_56, hF⟩ := bn3_i hF
      refine cm_Vi (As := [.int (1 : Int32)]) (rest := [.int r_51, .int r_47, .int (94 : Int32), .ref a_o1]) (wr := [(a_o1, .inr (8, [.int o1_sign_14, .int o1_number_14, .int o1_weight_14, .int o1_rungs_14]))]) ⟨hx, hb, hml, hown, hts⟩ (c_X5_readNumber l D y fl H.size a_t a_t_text t_length (t_at_14 + (1 : Int32)) t_faulty_14 t_text (1 : Int32) r_56 t_at_56 t_faulty_56 hq_56) (cwV 1 hts gX5_readFiling_X5_readNumber rfl rfl rfl (by decide +kernel) ⟨Nat.le_of_ble_eq_true rfl, Nat.le_of_ble_eq_true rfl⟩) hK hP hD hS hA [0, 1] [2] rfl rfl rfl rfl (by decide) rfl rfl rfl hl.1 rfl (Nat.le_of_ble_eq_true rfl) dX5_readFiling_56 ⟨Nat.le_of_ble_eq_true rfl, Nat.le_of_ble_eq_true rfl⟩ (fun H locs hP hD hS => ?_)
      have hP : va_P D vwCl [(a_o1, .inr (8, [.int o1_sign_14, .int o1_number_14, .int o1_weight_14, .int o1_rungs_14])), (a_t, .inr (9, [.ref a_t_text, .int t_length, .int t_at_56, .int t_faulty_56])), (a_t_text, .inl (y 1, 60, .inl t_text))] H := hP
      have hD : va_D A [(a_o1, .inr (8, [.int o1_sign_14, .int o1_number_14, .int o1_weight_14, .int o1_rungs_14])), (a_t, .inr (9, [.ref a_t_text, .int t_length, .int t_at_56, .int t_faulty_56])), (a_t_text, .inl (y 1, 60, .inl t_text))] := hD
      obtain ⟨o1_sign_59, o1_number_59, o1_weight_59, o1_rungs_59, hq_59, hF⟩ := bn4_i hF
      refine cm_Vv (As := [.int (94 : Int32), .int r_47, .int r_51, .int r_56]) (rest := []) (wr := [(a_t, .inr (9, [.ref a_t_text, .int t_length, .int t_at_56, .int t_faulty_56])), (a_t_text, .inl (y 1, 60, .inl t_text))]) ⟨hx, hb, hml, hown, hts⟩ (c_X4_tell l D y fl H.size a_o1 o1_sign_14 o1_number_14 o1_weight_14 o1_rungs_14 (94 : Int32) r_47 r_51 r_56 o1_sign_59 o1_number_59 o1_weight_59 o1_rungs_59 hq_59) (cwV 4 hts gX5_readFiling_X4_tell rfl rfl rfl (by decide +kernel) ⟨Nat.le_of_ble_eq_true rfl, Nat.le_of_ble_eq_true rfl⟩) hK hP hD hS hA [0] [1, 2] rfl rfl rfl rfl (by decide) rfl rfl rfl hl.1 rfl (Nat.le_of_ble_eq_true rfl) dX5_readFiling_59 ⟨Nat.le_of_ble_eq_true rfl, Nat.le_of_ble_eq_true rfl⟩ (fun H locs hP hD hS => ?_)
      have hP : va_P D vwCl [(a_t, .inr (9, [.ref a_t_text, .int t_length, .int t_at_56, .int t_faulty_56])), (a_t_text, .inl (y 1, 60, .inl t_text)), (a_o1, .inr (8, [.int o1_sign_59, .int o1_number_59, .int o1_weight_59, .int o1_rungs_59]))] H := hP
      have hD : va_D A [(a_t, .inr (9, [.ref a_t_text, .int t_length, .int t_at_56, .int t_faulty_56])), (a_t_text, .inl (y 1, 60, .inl t_text)), (a_o1, .inr (8, [.int o1_sign_59, .int o1_number_59, .int o1_weight_59, .int o1_rungs_59]))] := hD
      obtain ⟨e0_62, e1_62, e2_62, e3_62, e4_62, e5_62⟩ := inj6 hF
      rw [← e0_62, ← e1_62, ← e2_62, ← e3_62, ← e4_62, ← e5_62] at hQ0
      rw [hQ0]
      exact ret_v hx hb hr hlocks hAe hK hP hD hS [0, 1, 2] rfl rfl dX5_readFiling_62
def F_X5_readOrder (fl : Nat) (t_length : Int32) (t_at : Int32) (t_faulty : Int32) (t_text : Nat → Int32) (o1_sign : Int32) (o1_number : Int32) (o1_weight : Int32) (o1_rungs : Int32) : Option (Int32 × Int32 × Int32 × Int32 × Int32 × Int32) := bn (F_X5_look fl t_length t_at t_text) fun r_1 => if r_1 = (43 : Int32) then (bn6 (F_X5_readFiling fl t_length t_at t_faulty t_text o1_sign o1_number o1_weight o1_rungs) fun t_at_82 t_faulty_82 o1_sign_82 o1_number_82 o1_weight_82 o1_rungs_82 => some (t_at_82, t_faulty_82, o1_sign_82, o1_number_82, o1_weight_82, o1_rungs_82)) else (if r_1 = (45 : Int32) then (bn3 (F_X5_readNumber fl t_length (t_at + (1 : Int32)) t_faulty t_text (3 : Int32)) fun r_123 t_at_123 t_faulty_123 => bn4 (F_X4_tell fl o1_sign o1_number o1_weight o1_rungs ((r_1.toUInt32 % 65536).toInt32) r_123 (0 : Int32) (1 : Int32)) fun o1_sign_128 o1_number_128 o1_weight_128 o1_rungs_128 => some (t_at_123, t_faulty_123, o1_sign_128, o1_number_128, o1_weight_128, o1_rungs_128)) else (if r_1 = (100 : Int32) then (bn3 (F_X5_readNumber fl t_length (t_at + (1 : Int32)) t_faulty t_text (3 : Int32)) fun r_123b t_at_123b t_faulty_123b => bn4 (F_X4_tell fl o1_sign o1_number o1_weight o1_rungs ((r_1.toUInt32 % 65536).toInt32) r_123b (0 : Int32) (1 : Int32)) fun o1_sign_128b o1_number_128b o1_weight_128b o1_rungs_128b => some (t_at_123b, t_faulty_123b, o1_sign_128b, o1_number_128b, o1_weight_128b, o1_rungs_128b)) else (if r_1 = (102 : Int32) then (bn3 (F_X5_readNumber fl t_length (t_at + (1 : Int32)) t_faulty t_text (1 : Int32)) fun r_149 t_at_149 t_faulty_149 => bn4 (F_X4_tell fl o1_sign o1_number o1_weight o1_rungs ((r_1.toUInt32 % 65536).toInt32) r_149 (0 : Int32) (1 : Int32)) fun o1_sign_154 o1_number_154 o1_weight_154 o1_rungs_154 => some (t_at_149, t_faulty_149, o1_sign_154, o1_number_154, o1_weight_154, o1_rungs_154)) else (if r_1 = (114 : Int32) then (bn3 (F_X5_readNumber fl t_length (t_at + (1 : Int32)) t_faulty t_text (1 : Int32)) fun r_149b t_at_149b t_faulty_149b => bn4 (F_X4_tell fl o1_sign o1_number o1_weight o1_rungs ((r_1.toUInt32 % 65536).toInt32) r_149b (0 : Int32) (1 : Int32)) fun o1_sign_154b o1_number_154b o1_weight_154b o1_rungs_154b => some (t_at_149b, t_faulty_149b, o1_sign_154b, o1_number_154b, o1_weight_154b, o1_rungs_154b)) else (if r_1 = (116 : Int32) then (bn4 (F_X4_tell fl o1_sign o1_number o1_weight o1_rungs (116 : Int32) (0 : Int32) (0 : Int32) (1 : Int32)) fun o1_sign_176 o1_number_176 o1_weight_176 o1_rungs_176 => some (t_at + (1 : Int32), t_faulty, o1_sign_176, o1_number_176, o1_weight_176, o1_rungs_176)) else (if r_1 = (117 : Int32) then (bn3 (F_X5_readNumber fl t_length (t_at + (1 : Int32)) t_faulty t_text (3 : Int32)) fun r_123bb t_at_123bb t_faulty_123bb => bn4 (F_X4_tell fl o1_sign o1_number o1_weight o1_rungs ((r_1.toUInt32 % 65536).toInt32) r_123bb (0 : Int32) (1 : Int32)) fun o1_sign_128bb o1_number_128bb o1_weight_128bb o1_rungs_128bb => some (t_at_123bb, t_faulty_123bb, o1_sign_128bb, o1_number_128bb, o1_weight_128bb, o1_rungs_128bb)) else (if r_1 = (119 : Int32) then (bn6 (F_X5_readKeyAndWeight fl t_length (t_at + (1 : Int32)) t_faulty t_text o1_sign o1_number o1_weight o1_rungs (119 : Int32)) fun t_at_102 t_faulty_102 o1_sign_102 o1_number_102 o1_weight_102 o1_rungs_102 => some (t_at_102, t_faulty_102, o1_sign_102, o1_number_102, o1_weight_102, o1_rungs_102)) else (some (t_at, (1 : Int32), o1_sign, o1_number, o1_weight, o1_rungs)))))))))
theorem iX5_readOrder_X5 : ∀ w ∈ u_ws RX5 TX5 4, w ∈ wsX5_readOrder := fun w h => List.mem_cons_of_mem _ (List.mem_append_left _ (List.mem_append_left _ (List.mem_append_right _ h)))
set_option maxHeartbeats 4000000 in
set_option maxRecDepth 100000 in
theorem c_X5_readOrder (l : Launch) (D : va_G) (y : Nat → ClassId) (fl : Nat) (sz : Nat) (a_t : Nat) (a_t_text : Nat) (a_o1 : Nat) (t_length : Int32) (t_at : Int32) (t_faulty : Int32) (t_text : Nat → Int32) (o1_sign : Int32) (o1_number : Int32) (o1_weight : Int32) (o1_rungs : Int32) (t_at' : Int32) (t_faulty' : Int32) (o1_sign' : Int32) (o1_number' : Int32) (o1_weight' : Int32) (o1_rungs' : Int32) (hF : F_X5_readOrder fl t_length t_at t_faulty t_text o1_sign o1_number o1_weight o1_rungs = some (t_at', t_faulty', o1_sign', o1_number', o1_weight', o1_rungs')) : Met l yX5_readOrder wsX5_readOrder (rmq 4 87) (wrP D y [(a_t, .inr (9, [.ref a_t_text, .int t_length, .int t_at, .int t_faulty])), (a_t_text, .inl (y 1, 60, .inl t_text)), (a_o1, .inr (8, [.int o1_sign, .int o1_number, .int o1_weight, .int o1_rungs]))] sz [.ref a_t, .ref a_o1]) (wQv D y [(a_t, .inr (9, [.ref a_t_text, .int t_length, .int t_at', .int t_faulty'])), (a_t_text, .inl (y 1, 60, .inl t_text)), (a_o1, .inr (8, [.int o1_sign', .int o1_number', .int o1_weight', .int o1_rungs']))] [(a_t, .inr (9, [.ref a_t_text, .int t_length, .int t_at, .int t_faulty])), (a_t_text, .inl (y 1, 60, .inl t_text)), (a_o1, .inr (8, [.int o1_sign, .int o1_number, .int o1_weight, .int o1_rungs]))] sz) 0 0 (va_A [(a_t, .inr (9, [.ref a_t_text, .int t_length, .int t_at, .int t_faulty])), (a_t_text, .inl (y 1, 60, .inl t_text)), (a_o1, .inr (8, [.int o1_sign, .int o1_number, .int o1_weight, .int o1_rungs]))] sz) := by
  refine Met.ofW (cc := cX5_readOrder) (maxL := 3) (ret := none) (by decide) rfl ?_
  intro p e s m args below meth c s₁ B hml hv
  obtain ⟨hav, hsz, hP, hK, hD0⟩ := hv
  have hx := B.exec
  have hb := B.bytes
  have hr := B.returns
  have hts := atoms_spec (ws := wsX5_readOrder) B.pre
  have hown : s.vm.findClass RX5 = some m.cls := findClass_of_methodNamed B.named
  have hlocks := B.notSynchronized
  subst hsz
  have hD := hD0.self (sz := s.heap.size)
  obtain ⟨A, hAe⟩ : ∃ A : Nat → Prop, va_A [(a_t, .inr (9, [.ref a_t_text, .int t_length, .int t_at, .int t_faulty])), (a_t_text, .inl (y 1, 60, .inl t_text)), (a_o1, .inr (8, [.int o1_sign, .int o1_number, .int o1_weight, .int o1_rungs]))] s.heap.size = A := ⟨_, rfl⟩
  rw [hAe] at hD
  have hA : ∀ q, s.heap.size ≤ q → A q := fun q h => by rw [← hAe]; exact Or.inr h
  have hS : va_S A s.heap s.heap [] := va_S.rf
  refine W_q (R1 := (rmq 4 87)) rfl (fun Q0 hQ0 => ?_)
  unfold F_X5_readOrder at hF
  refine W_entry hav (Nat.le_of_ble_eq_true rfl) (fun ls hl => ?_)
  have hl : lv_has ls 3 [(0, .ref a_t), (1, .ref a_o1)] := hl
  refine lv_aload_n hx hb dX5_readOrder_0 rfl (lv_at hl 0 rfl) ?_
  obtain ⟨r_1, hq_1, hF⟩ := bn_i hF
  refine cr_V (As := []) (rest := []) ⟨hx, hb, hml, hown, hts⟩ (c_X5_look l D y fl a_t a_t_text t_length t_at t_faulty t_text r_1 hq_1) (cwV 0 hts gX5_readOrder_X5_look rfl rfl rfl (by decide +kernel) ⟨Nat.le_of_ble_eq_true rfl, Nat.le_of_ble_eq_true rfl⟩) hK hP [0, 1] rfl rfl rfl rfl hl.1 rfl (Nat.le_of_ble_eq_true rfl) dX5_readOrder_1 ⟨Nat.le_of_ble_eq_true rfl, Nat.le_of_ble_eq_true rfl⟩ ?_
  refine lv_istore_n (lv' := [(2, .int r_1), (0, .ref a_t), (1, .ref a_o1)]) hx hb dX5_readOrder_4 rfl hl (by decide) rfl (fun ls hl => ?_)
  refine lv_iload_n hx hb dX5_readOrder_5 rfl (lv_at hl 0 rfl) ?_
  by_cases c43_6 : r_1 = (43 : Int32)
  · have hF := ift hF c43_6
    refine lv_lookup (tgt := 80) hx hb dX5_readOrder_6 (by decide) (by first | (rw [c43_6]; done) | (rw [c43_6]; decide +kernel)) (by decide) ?_
    refine lv_aload_n hx hb dX5_readOrder_80 rfl (lv_at hl 1 rfl) ?_
    refine lv_aload_n hx hb dX5_readOrder_81 rfl (lv_at hl 2 rfl) ?_
    obtain ⟨t_at_82, t_faulty_82, o1_sign_82, o1_number_82, o1_weight_82, o1_rungs_82, hq_82, hF⟩ := bn6_i hF
    refine cm_Vv (As := [.ref a_o1]) (rest := []) (wr := []) ⟨hx, hb, hml, hown, hts⟩ (c_X5_readFiling l D y fl s.heap.size a_t a_t_text a_o1 t_length t_at t_faulty t_text o1_sign o1_number o1_weight o1_rungs t_at_82 t_faulty_82 o1_sign_82 o1_number_82 o1_weight_82 o1_rungs_82 hq_82) (cwV 1 hts gX5_readOrder_X5_readFiling rfl rfl rfl (by decide +kernel) ⟨Nat.le_of_ble_eq_true rfl, Nat.le_of_ble_eq_true rfl⟩) hK hP hD hS hA [0, 1, 2] [] rfl rfl rfl rfl (by decide) rfl rfl rfl hl.1 rfl (Nat.le_of_ble_eq_true rfl) dX5_readOrder_82 ⟨Nat.le_of_ble_eq_true rfl, Nat.le_of_ble_eq_true rfl⟩ (fun H locs hP hD hS => ?_)
    have hP : va_P D vwCl [(a_t, .inr (9, [.ref a_t_text, .int t_length, .int t_at_82, .int t_faulty_82])), (a_t_text, .inl (y 1, 60, .inl t_text)), (a_o1, .inr (8, [.int o1_sign_82, .int o1_number_82, .int o1_weight_82, .int o1_rungs_82]))] H := hP
    have hD : va_D A [(a_t, .inr (9, [.ref a_t_text, .int t_length, .int t_at_82, .int t_faulty_82])), (a_t_text, .inl (y 1, 60, .inl t_text)), (a_o1, .inr (8, [.int o1_sign_82, .int o1_number_82, .int o1_weight_82, .int o1_rungs_82]))] := hD
    refine lv_goto (tgt := 187) hx hb dX5_readOrder_85 (by decide) ?_
    obtain ⟨e0_187, e1_187, e2_187, e3_187, e4_187, e5_187⟩ := inj6 hF
    rw [← e0_187, ← e1_187, ← e2_187, ← e3_187, ← e4_187, ← e5_187] at hQ0
    rw [hQ0]
    exact ret_v hx hb hr hlocks hAe hK hP hD hS [0, 1, 2] rfl rfl dX5_readOrder_187
  · have hF := iff_ hF c43_6
    by_cases c45_6 : r_1 = (45 : Int32)
    · have hF := ift hF c45_6
      refine lv_lookup (tgt := 108) hx hb dX5_readOrder_6 (by decide) (by first | (rw [c45_6]; done) | (rw [c45_6]; decide +kernel)) (by decide) ?_
      refine lv_aload_n hx hb dX5_readOrder_108 rfl (lv_at hl 1 rfl) ?_
      refine lv_dup hx hb dX5_readOrder_109 rfl ?_
      refine va_get (D := D) (ci := 9) (v := .int t_at) (C := RX5) (T := TX5) (N := 4) hx hb hts iX5_readOrder_X5 hown hK hP 0 rfl rfl 2 (by decide) (hts (.fieldLink RX5 19 "SkipArchive$Reader" "at" "I") (List.mem_of_getElem? (i := 1) rfl)) (fun _ h9 => h9) rfl dX5_readOrder_110 ?_
      refine lv_iconst (v := 1) hx hb dX5_readOrder_113 (by decide) ?_
      refine lv_iadd hx hb dX5_readOrder_114 ?_
      refine va_put (D := D) (ci := 9) (v := .int (t_at + (1 : Int32))) (ty := .int) (C := RX5) (T := TX5) (N := 4) hx hb hts iX5_readOrder_X5 tyX5 tyX5_ok nmX5 hown hK hP hD hS 0 rfl rfl 2 (by decide) (hts (.fieldLink RX5 19 "SkipArchive$Reader" "at" "I") (List.mem_of_getElem? (i := 1) rfl)) (fun _ h9 => h9) rfl (by decide +kernel) rfl rfl (Nat.le_of_ble_eq_true rfl) dX5_readOrder_115 (fun H locs hP hD hS => ?_)
      have hP : va_P D vwCl [(a_t, .inr (9, [.ref a_t_text, .int t_length, .int (t_at + (1 : Int32)), .int t_faulty])), (a_t_text, .inl (y 1, 60, .inl t_text)), (a_o1, .inr (8, [.int o1_sign, .int o1_number, .int o1_weight, .int o1_rungs]))] H := hP
      have hD : va_D A [(a_t, .inr (9, [.ref a_t_text, .int t_length, .int (t_at + (1 : Int32)), .int t_faulty])), (a_t_text, .inl (y 1, 60, .inl t_text)), (a_o1, .inr (8, [.int o1_sign, .int o1_number, .int o1_weight, .int o1_rungs]))] := hD
      refine lv_aload_n hx hb dX5_readOrder_118 rfl (lv_at hl 2 rfl) ?_
      refine lv_iload_n hx hb dX5_readOrder_119 rfl (lv_at hl 0 rfl) ?_
      refine lv_i2c hx hb dX5_readOrder_120 rfl ?_
      refine lv_aload_n hx hb dX5_readOrder_121 rfl (lv_at hl 1 rfl) ?_
      refine lv_iconst (v := 3) hx hb dX5_readOrder_122 (by decide) ?_
      obtain ⟨r_123, t_at_123, t_faulty_123, hq_123, hF⟩ := bn3_i hF
      refine cm_Vi (As := [.int (3 : Int32)]) (rest := [.int ((r_1.toUInt32 % 65536).toInt32), .ref a_o1]) (wr := [(a_o1, .inr (8, [.int o1_sign, .int o1_number, .int o1_weight, .int o1_rungs]))]) ⟨hx, hb, hml, hown, hts⟩ (c_X5_readNumber l D y fl H.size a_t a_t_text t_length (t_at + (1 : Int32)) t_faulty t_text (3 : Int32) r_123 t_at_123 t_faulty_123 hq_123) (cwV 1 hts gX5_readOrder_X5_readNumber rfl rfl rfl (by decide +kernel) ⟨Nat.le_of_ble_eq_true rfl, Nat.le_of_ble_eq_true rfl⟩) hK hP hD hS hA [0, 1] [2] rfl rfl rfl rfl (by decide) rfl rfl rfl hl.1 rfl (Nat.le_of_ble_eq_true rfl) dX5_readOrder_123 ⟨Nat.le_of_ble_eq_true rfl, Nat.le_of_ble_eq_true rfl⟩ (fun H locs hP hD hS => ?_)
      have hP : va_P D vwCl [(a_o1, .inr (8, [.int o1_sign, .int o1_number, .int o1_weight, .int o1_rungs])), (a_t, .inr (9, [.ref a_t_text, .int t_length, .int t_at_123, .int t_faulty_123])), (a_t_text, .inl (y 1, 60, .inl t_text))] H := hP
      have hD : va_D A [(a_o1, .inr (8, [.int o1_sign, .int o1_number, .int o1_weight, .int o1_rungs])), (a_t, .inr (9, [.ref a_t_text, .int t_length, .int t_at_123, .int t_faulty_123])), (a_t_text, .inl (y 1, 60, .inl t_text))] := hD
      refine lv_iconst (v := 0) hx hb dX5_readOrder_126 (by decide) ?_
      refine lv_iconst (v := 1) hx hb dX5_readOrder_127 (by decide) ?_
      obtain ⟨o1_sign_128, o1_number_128, o1_weight_128, o1_rungs_128, hq_128, hF⟩ := bn4_i hF
      refine cm_Vv (As := [.int ((r_1.toUInt32 % 65536).toInt32), .int r_123, .int (0 : Int32), .int (1 : Int32)]) (rest := []) (wr := [(a_t, .inr (9, [.ref a_t_text, .int t_length, .int t_at_123, .int t_faulty_123])), (a_t_text, .inl (y 1, 60, .inl t_text))]) ⟨hx, hb, hml, hown, hts⟩ (c_X4_tell l D y fl H.size a_o1 o1_sign o1_number o1_weight o1_rungs ((r_1.toUInt32 % 65536).toInt32) r_123 (0 : Int32) (1 : Int32) o1_sign_128 o1_number_128 o1_weight_128 o1_rungs_128 hq_128) (cwV 4 hts gX5_readOrder_X4_tell rfl rfl rfl (by decide +kernel) ⟨Nat.le_of_ble_eq_true rfl, Nat.le_of_ble_eq_true rfl⟩) hK hP hD hS hA [0] [1, 2] rfl rfl rfl rfl (by decide) rfl rfl rfl hl.1 rfl (Nat.le_of_ble_eq_true rfl) dX5_readOrder_128 ⟨Nat.le_of_ble_eq_true rfl, Nat.le_of_ble_eq_true rfl⟩ (fun H locs hP hD hS => ?_)
      have hP : va_P D vwCl [(a_t, .inr (9, [.ref a_t_text, .int t_length, .int t_at_123, .int t_faulty_123])), (a_t_text, .inl (y 1, 60, .inl t_text)), (a_o1, .inr (8, [.int o1_sign_128, .int o1_number_128, .int o1_weight_128, .int o1_rungs_128]))] H := hP
      have hD : va_D A [(a_t, .inr (9, [.ref a_t_text, .int t_length, .int t_at_123, .int t_faulty_123])), (a_t_text, .inl (y 1, 60, .inl t_text)), (a_o1, .inr (8, [.int o1_sign_128, .int o1_number_128, .int o1_weight_128, .int o1_rungs_128]))] := hD
      refine lv_goto (tgt := 187) hx hb dX5_readOrder_131 (by decide) ?_
      obtain ⟨e0_187, e1_187, e2_187, e3_187, e4_187, e5_187⟩ := inj6 hF
      rw [← e0_187, ← e1_187, ← e2_187, ← e3_187, ← e4_187, ← e5_187] at hQ0
      rw [hQ0]
      exact ret_v hx hb hr hlocks hAe hK hP hD hS [0, 1, 2] rfl rfl dX5_readOrder_187
    · have hF := iff_ hF c45_6
      by_cases c100_6 : r_1 = (100 : Int32)
      · have hF := ift hF c100_6
        refine lv_lookup (tgt := 108) hx hb dX5_readOrder_6 (by decide) (by first | (rw [c100_6]; done) | (rw [c100_6]; decide +kernel)) (by decide) ?_
        refine lv_aload_n hx hb dX5_readOrder_108 rfl (lv_at hl 1 rfl) ?_
        refine lv_dup hx hb dX5_readOrder_109 rfl ?_
        refine va_get (D := D) (ci := 9) (v := .int t_at) (C := RX5) (T := TX5) (N := 4) hx hb hts iX5_readOrder_X5 hown hK hP 0 rfl rfl 2 (by decide) (hts (.fieldLink RX5 19 "SkipArchive$Reader" "at" "I") (List.mem_of_getElem? (i := 1) rfl)) (fun _ h9 => h9) rfl dX5_readOrder_110 ?_
        refine lv_iconst (v := 1) hx hb dX5_readOrder_113 (by decide) ?_
        refine lv_iadd hx hb dX5_readOrder_114 ?_
        refine va_put (D := D) (ci := 9) (v := .int (t_at + (1 : Int32))) (ty := .int) (C := RX5) (T := TX5) (N := 4) hx hb hts iX5_readOrder_X5 tyX5 tyX5_ok nmX5 hown hK hP hD hS 0 rfl rfl 2 (by decide) (hts (.fieldLink RX5 19 "SkipArchive$Reader" "at" "I") (List.mem_of_getElem? (i := 1) rfl)) (fun _ h9 => h9) rfl (by decide +kernel) rfl rfl (Nat.le_of_ble_eq_true rfl) dX5_readOrder_115 (fun H locs hP hD hS => ?_)
        have hP : va_P D vwCl [(a_t, .inr (9, [.ref a_t_text, .int t_length, .int (t_at + (1 : Int32)), .int t_faulty])), (a_t_text, .inl (y 1, 60, .inl t_text)), (a_o1, .inr (8, [.int o1_sign, .int o1_number, .int o1_weight, .int o1_rungs]))] H := hP
        have hD : va_D A [(a_t, .inr (9, [.ref a_t_text, .int t_length, .int (t_at + (1 : Int32)), .int t_faulty])), (a_t_text, .inl (y 1, 60, .inl t_text)), (a_o1, .inr (8, [.int o1_sign, .int o1_number, .int o1_weight, .int o1_rungs]))] := hD
        refine lv_aload_n hx hb dX5_readOrder_118 rfl (lv_at hl 2 rfl) ?_
        refine lv_iload_n hx hb dX5_readOrder_119 rfl (lv_at hl 0 rfl) ?_
        refine lv_i2c hx hb dX5_readOrder_120 rfl ?_
        refine lv_aload_n hx hb dX5_readOrder_121 rfl (lv_at hl 1 rfl) ?_
        refine lv_iconst (v := 3) hx hb dX5_readOrder_122 (by decide) ?_
        obtain ⟨r_123b, t_at_123b, t_faulty_123b, hq_123b, hF⟩ := bn3_i hF
        refine cm_Vi (As := [.int (3 : Int32)]) (rest := [.int ((r_1.toUInt32 % 65536).toInt32), .ref a_o1]) (wr := [(a_o1, .inr (8, [.int o1_sign, .int o1_number, .int o1_weight, .int o1_rungs]))]) ⟨hx, hb, hml, hown, hts⟩ (c_X5_readNumber l D y fl H.size a_t a_t_text t_length (t_at + (1 : Int32)) t_faulty t_text (3 : Int32) r_123b t_at_123b t_faulty_123b hq_123b) (cwV 1 hts gX5_readOrder_X5_readNumber rfl rfl rfl (by decide +kernel) ⟨Nat.le_of_ble_eq_true rfl, Nat.le_of_ble_eq_true rfl⟩) hK hP hD hS hA [0, 1] [2] rfl rfl rfl rfl (by decide) rfl rfl rfl hl.1 rfl (Nat.le_of_ble_eq_true rfl) dX5_readOrder_123 ⟨Nat.le_of_ble_eq_true rfl, Nat.le_of_ble_eq_true rfl⟩ (fun H locs hP hD hS => ?_)
        have hP : va_P D vwCl [(a_o1, .inr (8, [.int o1_sign, .int o1_number, .int o1_weight, .int o1_rungs])), (a_t, .inr (9, [.ref a_t_text, .int t_length, .int t_at_123b, .int t_faulty_123b])), (a_t_text, .inl (y 1, 60, .inl t_text))] H := hP
        have hD : va_D A [(a_o1, .inr (8, [.int o1_sign, .int o1_number, .int o1_weight, .int o1_rungs])), (a_t, .inr (9, [.ref a_t_text, .int t_length, .int t_at_123b, .int t_faulty_123b])), (a_t_text, .inl (y 1, 60, .inl t_text))] := hD
        refine lv_iconst (v := 0) hx hb dX5_readOrder_126 (by decide) ?_
        refine lv_iconst (v := 1) hx hb dX5_readOrder_127 (by decide) ?_
        obtain ⟨o1_sign_128b, o1_number_128b, o1_weight_128b, o1_rungs_128b, hq_128b, hF⟩ := bn4_i hF
        refine cm_Vv (As := [.int ((r_1.toUInt32 % 65536).toInt32), .int r_123b, .int (0 : Int32), .int (1 : Int32)]) (rest := []) (wr := [(a_t, .inr (9, [.ref a_t_text, .int t_length, .int t_at_123b, .int t_faulty_123b])), (a_t_text, .inl (y 1, 60, .inl t_text))]) ⟨hx, hb, hml, hown, hts⟩ (c_X4_tell l D y fl H.size a_o1 o1_sign o1_number o1_weight o1_rungs ((r_1.toUInt32 % 65536).toInt32) r_123b (0 : Int32) (1 : Int32) o1_sign_128b o1_number_128b o1_weight_128b o1_rungs_128b hq_128b) (cwV 4 hts gX5_readOrder_X4_tell rfl rfl rfl (by decide +kernel) ⟨Nat.le_of_ble_eq_true rfl, Nat.le_of_ble_eq_true rfl⟩) hK hP hD hS hA [0] [1, 2] rfl rfl rfl rfl (by decide) rfl rfl rfl hl.1 rfl (Nat.le_of_ble_eq_true rfl) dX5_readOrder_128 ⟨Nat.le_of_ble_eq_true rfl, Nat.le_of_ble_eq_true rfl⟩ (fun H locs hP hD hS => ?_)
        have hP : va_P D vwCl [(a_t, .inr (9, [.ref a_t_text, .int t_length, .int t_at_123b, .int t_faulty_123b])), (a_t_text, .inl (y 1, 60, .inl t_text)), (a_o1, .inr (8, [.int o1_sign_128b, .int o1_number_128b, .int o1_weight_128b, .int o1_rungs_128b]))] H := hP
        have hD : va_D A [(a_t, .inr (9, [.ref a_t_text, .int t_length, .int t_at_123b, .int t_faulty_123b])), (a_t_text, .inl (y 1, 60, .inl t_text)), (a_o1, .inr (8, [.int o1_sign_128b, .int o1_number_128b, .int o1_weight_128b, .int o1_rungs_128b]))] := hD
        refine lv_goto (tgt := 187) hx hb dX5_readOrder_131 (by decide) ?_
        obtain ⟨e0_187, e1_187, e2_187, e3_187, e4_187, e5_187⟩ := inj6 hF
        rw [← e0_187, ← e1_187, ← e2_187, ← e3_187, ← e4_187, ← e5_187] at hQ0
        rw [hQ0]
        exact ret_v hx hb hr hlocks hAe hK hP hD hS [0, 1, 2] rfl rfl dX5_readOrder_187
      · have hF := iff_ hF c100_6
        by_cases c102_6 : r_1 = (102 : Int32)
        · have hF := ift hF c102_6
          refine lv_lookup (tgt := 134) hx hb dX5_readOrder_6 (by decide) (by first | (rw [c102_6]; done) | (rw [c102_6]; decide +kernel)) (by decide) ?_
          refine lv_aload_n hx hb dX5_readOrder_134 rfl (lv_at hl 1 rfl) ?_
          refine lv_dup hx hb dX5_readOrder_135 rfl ?_
          refine va_get (D := D) (ci := 9) (v := .int t_at) (C := RX5) (T := TX5) (N := 4) hx hb hts iX5_readOrder_X5 hown hK hP 0 rfl rfl 2 (by decide) (hts (.fieldLink RX5 19 "SkipArchive$Reader" "at" "I") (List.mem_of_getElem? (i := 1) rfl)) (fun _ h9 => h9) rfl dX5_readOrder_136 ?_
          refine lv_iconst (v := 1) hx hb dX5_readOrder_139 (by decide) ?_
          refine lv_iadd hx hb dX5_readOrder_140 ?_
          refine va_put (D := D) (ci := 9) (v := .int (t_at + (1 : Int32))) (ty := .int) (C := RX5) (T := TX5) (N := 4) hx hb hts iX5_readOrder_X5 tyX5 tyX5_ok nmX5 hown hK hP hD hS 0 rfl rfl 2 (by decide) (hts (.fieldLink RX5 19 "SkipArchive$Reader" "at" "I") (List.mem_of_getElem? (i := 1) rfl)) (fun _ h9 => h9) rfl (by decide +kernel) rfl rfl (Nat.le_of_ble_eq_true rfl) dX5_readOrder_141 (fun H locs hP hD hS => ?_)
          have hP : va_P D vwCl [(a_t, .inr (9, [.ref a_t_text, .int t_length, .int (t_at + (1 : Int32)), .int t_faulty])), (a_t_text, .inl (y 1, 60, .inl t_text)), (a_o1, .inr (8, [.int o1_sign, .int o1_number, .int o1_weight, .int o1_rungs]))] H := hP
          have hD : va_D A [(a_t, .inr (9, [.ref a_t_text, .int t_length, .int (t_at + (1 : Int32)), .int t_faulty])), (a_t_text, .inl (y 1, 60, .inl t_text)), (a_o1, .inr (8, [.int o1_sign, .int o1_number, .int o1_weight, .int o1_rungs]))] := hD
          refine lv_aload_n hx hb dX5_readOrder_144 rfl (lv_at hl 2 rfl) ?_
          refine lv_iload_n hx hb dX5_readOrder_145 rfl (lv_at hl 0 rfl) ?_
          refine lv_i2c hx hb dX5_readOrder_146 rfl ?_
          refine lv_aload_n hx hb dX5_readOrder_147 rfl (lv_at hl 1 rfl) ?_
          refine lv_iconst (v := 1) hx hb dX5_readOrder_148 (by decide) ?_
          obtain ⟨r_149, t_at_149, t_faulty_149, hq_149, hF⟩ := bn3_i hF
          refine cm_Vi (As := [.int (1 : Int32)]) (rest := [.int ((r_1.toUInt32 % 65536).toInt32), .ref a_o1]) (wr := [(a_o1, .inr (8, [.int o1_sign, .int o1_number, .int o1_weight, .int o1_rungs]))]) ⟨hx, hb, hml, hown, hts⟩ (c_X5_readNumber l D y fl H.size a_t a_t_text t_length (t_at + (1 : Int32)) t_faulty t_text (1 : Int32) r_149 t_at_149 t_faulty_149 hq_149) (cwV 1 hts gX5_readOrder_X5_readNumber rfl rfl rfl (by decide +kernel) ⟨Nat.le_of_ble_eq_true rfl, Nat.le_of_ble_eq_true rfl⟩) hK hP hD hS hA [0, 1] [2] rfl rfl rfl rfl (by decide) rfl rfl rfl hl.1 rfl (Nat.le_of_ble_eq_true rfl) dX5_readOrder_149 ⟨Nat.le_of_ble_eq_true rfl, Nat.le_of_ble_eq_true rfl⟩ (fun H locs hP hD hS => ?_)
          have hP : va_P D vwCl [(a_o1, .inr (8, [.int o1_sign, .int o1_number, .int o1_weight, .int o1_rungs])), (a_t, .inr (9, [.ref a_t_text, .int t_length, .int t_at_149, .int t_faulty_149])), (a_t_text, .inl (y 1, 60, .inl t_text))] H := hP
          have hD : va_D A [(a_o1, .inr (8, [.int o1_sign, .int o1_number, .int o1_weight, .int o1_rungs])), (a_t, .inr (9, [.ref a_t_text, .int t_length, .int t_at_149, .int t_faulty_149])), (a_t_text, .inl (y 1, 60, .inl t_text))] := hD
          refine lv_iconst (v := 0) hx hb dX5_readOrder_152 (by decide) ?_
          refine lv_iconst (v := 1) hx hb dX5_readOrder_153 (by decide) ?_
          obtain ⟨o1_sign_154, o1_number_154, o1_weight_154, o1_rungs_154, hq_154, hF⟩ := bn4_i hF
          refine cm_Vv (As := [.int ((r_1.toUInt32 % 65536).toInt32), .int r_149, .int (0 : Int32), .int (1 : Int32)]) (rest := []) (wr := [(a_t, .inr (9, [.ref a_t_text, .int t_length, .int t_at_149, .int t_faulty_149])), (a_t_text, .inl (y 1, 60, .inl t_text))]) ⟨hx, hb, hml, hown, hts⟩ (c_X4_tell l D y fl H.size a_o1 o1_sign o1_number o1_weight o1_rungs ((r_1.toUInt32 % 65536).toInt32) r_149 (0 : Int32) (1 : Int32) o1_sign_154 o1_number_154 o1_weight_154 o1_rungs_154 hq_154) (cwV 4 hts gX5_readOrder_X4_tell rfl rfl rfl (by decide +kernel) ⟨Nat.le_of_ble_eq_true rfl, Nat.le_of_ble_eq_true rfl⟩) hK hP hD hS hA [0] [1, 2] rfl rfl rfl rfl (by decide) rfl rfl rfl hl.1 rfl (Nat.le_of_ble_eq_true rfl) dX5_readOrder_154 ⟨Nat.le_of_ble_eq_true rfl, Nat.le_of_ble_eq_true rfl⟩ (fun H locs hP hD hS => ?_)
          have hP : va_P D vwCl [(a_t, .inr (9, [.ref a_t_text, .int t_length, .int t_at_149, .int t_faulty_149])), (a_t_text, .inl (y 1, 60, .inl t_text)), (a_o1, .inr (8, [.int o1_sign_154, .int o1_number_154, .int o1_weight_154, .int o1_rungs_154]))] H := hP
          have hD : va_D A [(a_t, .inr (9, [.ref a_t_text, .int t_length, .int t_at_149, .int t_faulty_149])), (a_t_text, .inl (y 1, 60, .inl t_text)), (a_o1, .inr (8, [.int o1_sign_154, .int o1_number_154, .int o1_weight_154, .int o1_rungs_154]))] := hD
          refine lv_goto (tgt := 187) hx hb dX5_readOrder_157 (by decide) ?_
          obtain ⟨e0_187, e1_187, e2_187, e3_187, e4_187, e5_187⟩ := inj6 hF
          rw [← e0_187, ← e1_187, ← e2_187, ← e3_187, ← e4_187, ← e5_187] at hQ0
          rw [hQ0]
          exact ret_v hx hb hr hlocks hAe hK hP hD hS [0, 1, 2] rfl rfl dX5_readOrder_187
        · have hF := iff_ hF c102_6
          by_cases c114_6 : r_1 = (114 : Int32)
          · have hF := ift hF c114_6
            refine lv_lookup (tgt := 134) hx hb dX5_readOrder_6 (by decide) (by first | (rw [c114_6]; done) | (rw [c114_6]; decide +kernel)) (by decide) ?_
            refine lv_aload_n hx hb dX5_readOrder_134 rfl (lv_at hl 1 rfl) ?_
            refine lv_dup hx hb dX5_readOrder_135 rfl ?_
            refine va_get (D := D) (ci := 9) (v := .int t_at) (C := RX5) (T := TX5) (N := 4) hx hb hts iX5_readOrder_X5 hown hK hP 0 rfl rfl 2 (by decide) (hts (.fieldLink RX5 19 "SkipArchive$Reader" "at" "I") (List.mem_of_getElem? (i := 1) rfl)) (fun _ h9 => h9) rfl dX5_readOrder_136 ?_
            refine lv_iconst (v := 1) hx hb dX5_readOrder_139 (by decide) ?_
            refine lv_iadd hx hb dX5_readOrder_140 ?_
            refine va_put (D := D) (ci := 9) (v := .int (t_at + (1 : Int32))) (ty := .int) (C := RX5) (T := TX5) (N := 4) hx hb hts iX5_readOrder_X5 tyX5 tyX5_ok nmX5 hown hK hP hD hS 0 rfl rfl 2 (by decide) (hts (.fieldLink RX5 19 "SkipArchive$Reader" "at" "I") (List.mem_of_getElem? (i := 1) rfl)) (fun _ h9 => h9) rfl (by decide +kernel) rfl rfl (Nat.le_of_ble_eq_true rfl) dX5_readOrder_141 (fun H locs hP hD hS => ?_)
            have hP : va_P D vwCl [(a_t, .inr (9, [.ref a_t_text, .int t_length, .int (t_at + (1 : Int32)), .int t_faulty])), (a_t_text, .inl (y 1, 60, .inl t_text)), (a_o1, .inr (8, [.int o1_sign, .int o1_number, .int o1_weight, .int o1_rungs]))] H := hP
            have hD : va_D A [(a_t, .inr (9, [.ref a_t_text, .int t_length, .int (t_at + (1 : Int32)), .int t_faulty])), (a_t_text, .inl (y 1, 60, .inl t_text)), (a_o1, .inr (8, [.int o1_sign, .int o1_number, .int o1_weight, .int o1_rungs]))] := hD
            refine lv_aload_n hx hb dX5_readOrder_144 rfl (lv_at hl 2 rfl) ?_
            refine lv_iload_n hx hb dX5_readOrder_145 rfl (lv_at hl 0 rfl) ?_
            refine lv_i2c hx hb dX5_readOrder_146 rfl ?_
            refine lv_aload_n hx hb dX5_readOrder_147 rfl (lv_at hl 1 rfl) ?_
            refine lv_iconst (v := 1) hx hb dX5_readOrder_148 (by decide) ?_
            obtain ⟨r_149b, t_at_149b, t_faulty_149b, hq_149b, hF⟩ := bn3_i hF
            refine cm_Vi (As := [.int (1 : Int32)]) (rest := [.int ((r_1.toUInt32 % 65536).toInt32), .ref a_o1]) (wr := [(a_o1, .inr (8, [.int o1_sign, .int o1_number, .int o1_weight, .int o1_rungs]))]) ⟨hx, hb, hml, hown, hts⟩ (c_X5_readNumber l D y fl H.size a_t a_t_text t_length (t_at + (1 : Int32)) t_faulty t_text (1 : Int32) r_149b t_at_149b t_faulty_149b hq_149b) (cwV 1 hts gX5_readOrder_X5_readNumber rfl rfl rfl (by decide +kernel) ⟨Nat.le_of_ble_eq_true rfl, Nat.le_of_ble_eq_true rfl⟩) hK hP hD hS hA [0, 1] [2] rfl rfl rfl rfl (by decide) rfl rfl rfl hl.1 rfl (Nat.le_of_ble_eq_true rfl) dX5_readOrder_149 ⟨Nat.le_of_ble_eq_true rfl, Nat.le_of_ble_eq_true rfl⟩ (fun H locs hP hD hS => ?_)
            have hP : va_P D vwCl [(a_o1, .inr (8, [.int o1_sign, .int o1_number, .int o1_weight, .int o1_rungs])), (a_t, .inr (9, [.ref a_t_text, .int t_length, .int t_at_149b, .int t_faulty_149b])), (a_t_text, .inl (y 1, 60, .inl t_text))] H := hP
            have hD : va_D A [(a_o1, .inr (8, [.int o1_sign, .int o1_number, .int o1_weight, .int o1_rungs])), (a_t, .inr (9, [.ref a_t_text, .int t_length, .int t_at_149b, .int t_faulty_149b])), (a_t_text, .inl (y 1, 60, .inl t_text))] := hD
            refine lv_iconst (v := 0) hx hb dX5_readOrder_152 (by decide) ?_
            refine lv_iconst (v := 1) hx hb dX5_readOrder_153 (by decide) ?_
            obtain ⟨o1_sign_154b, o1_number_154b, o1_weight_154b, o1_rungs_154b, hq_154b, hF⟩ := bn4_i hF
            refine cm_Vv (As := [.int ((r_1.toUInt32 % 65536).toInt32), .int r_149b, .int (0 : Int32), .int (1 : Int32)]) (rest := []) (wr := [(a_t, .inr (9, [.ref a_t_text, .int t_length, .int t_at_149b, .int t_faulty_149b])), (a_t_text, .inl (y 1, 60, .inl t_text))]) ⟨hx, hb, hml, hown, hts⟩ (c_X4_tell l D y fl H.size a_o1 o1_sign o1_number o1_weight o1_rungs ((r_1.toUInt32 % 65536).toInt32) r_149b (0 : Int32) (1 : Int32) o1_sign_154b o1_number_154b o1_weight_154b o1_rungs_154b hq_154b) (cwV 4 hts gX5_readOrder_X4_tell rfl rfl rfl (by decide +kernel) ⟨Nat.le_of_ble_eq_true rfl, Nat.le_of_ble_eq_true rfl⟩) hK hP hD hS hA [0] [1, 2] rfl rfl rfl rfl (by decide) rfl rfl rfl hl.1 rfl (Nat.le_of_ble_eq_true rfl) dX5_readOrder_154 ⟨Nat.le_of_ble_eq_true rfl, Nat.le_of_ble_eq_true rfl⟩ (fun H locs hP hD hS => ?_)
            have hP : va_P D vwCl [(a_t, .inr (9, [.ref a_t_text, .int t_length, .int t_at_149b, .int t_faulty_149b])), (a_t_text, .inl (y 1, 60, .inl t_text)), (a_o1, .inr (8, [.int o1_sign_154b, .int o1_number_154b, .int o1_weight_154b, .int o1_rungs_154b]))] H := hP
            have hD : va_D A [(a_t, .inr (9, [.ref a_t_text, .int t_length, .int t_at_149b, .int t_faulty_149b])), (a_t_text, .inl (y 1, 60, .inl t_text)), (a_o1, .inr (8, [.int o1_sign_154b, .int o1_number_154b, .int o1_weight_154b, .int o1_rungs_154b]))] := hD
            refine lv_goto (tgt := 187) hx hb dX5_readOrder_157 (by decide) ?_
            obtain ⟨e0_187, e1_187, e2_187, e3_187, e4_187, e5_187⟩ := inj6 hF
            rw [← e0_187, ← e1_187, ← e2_187, ← e3_187, ← e4_187, ← e5_187] at hQ0
            rw [hQ0]
            exact ret_v hx hb hr hlocks hAe hK hP hD hS [0, 1, 2] rfl rfl dX5_readOrder_187
          · have hF := iff_ hF c114_6
            by_cases c116_6 : r_1 = (116 : Int32)
            · have hF := ift hF c116_6
              refine lv_lookup (tgt := 160) hx hb dX5_readOrder_6 (by decide) (by first | (rw [c116_6]; done) | (rw [c116_6]; decide +kernel)) (by decide) ?_
              refine lv_aload_n hx hb dX5_readOrder_160 rfl (lv_at hl 1 rfl) ?_
              refine lv_dup hx hb dX5_readOrder_161 rfl ?_
              refine va_get (D := D) (ci := 9) (v := .int t_at) (C := RX5) (T := TX5) (N := 4) hx hb hts iX5_readOrder_X5 hown hK hP 0 rfl rfl 2 (by decide) (hts (.fieldLink RX5 19 "SkipArchive$Reader" "at" "I") (List.mem_of_getElem? (i := 1) rfl)) (fun _ h9 => h9) rfl dX5_readOrder_162 ?_
              refine lv_iconst (v := 1) hx hb dX5_readOrder_165 (by decide) ?_
              refine lv_iadd hx hb dX5_readOrder_166 ?_
              refine va_put (D := D) (ci := 9) (v := .int (t_at + (1 : Int32))) (ty := .int) (C := RX5) (T := TX5) (N := 4) hx hb hts iX5_readOrder_X5 tyX5 tyX5_ok nmX5 hown hK hP hD hS 0 rfl rfl 2 (by decide) (hts (.fieldLink RX5 19 "SkipArchive$Reader" "at" "I") (List.mem_of_getElem? (i := 1) rfl)) (fun _ h9 => h9) rfl (by decide +kernel) rfl rfl (Nat.le_of_ble_eq_true rfl) dX5_readOrder_167 (fun H locs hP hD hS => ?_)
              have hP : va_P D vwCl [(a_t, .inr (9, [.ref a_t_text, .int t_length, .int (t_at + (1 : Int32)), .int t_faulty])), (a_t_text, .inl (y 1, 60, .inl t_text)), (a_o1, .inr (8, [.int o1_sign, .int o1_number, .int o1_weight, .int o1_rungs]))] H := hP
              have hD : va_D A [(a_t, .inr (9, [.ref a_t_text, .int t_length, .int (t_at + (1 : Int32)), .int t_faulty])), (a_t_text, .inl (y 1, 60, .inl t_text)), (a_o1, .inr (8, [.int o1_sign, .int o1_number, .int o1_weight, .int o1_rungs]))] := hD
              refine lv_aload_n hx hb dX5_readOrder_170 rfl (lv_at hl 2 rfl) ?_
              refine lv_bipush (v := 116) hx hb dX5_readOrder_171 (by decide) ?_
              refine lv_iconst (v := 0) hx hb dX5_readOrder_173 (by decide) ?_
              refine lv_iconst (v := 0) hx hb dX5_readOrder_174 (by decide) ?_
              refine lv_iconst (v := 1) hx hb dX5_readOrder_175 (by decide) ?_
              obtain ⟨o1_sign_176, o1_number_176, o1_weight_176, o1_rungs_176, hq_176, hF⟩ := bn4_i hF
              refine cm_Vv (As := [.int (116 : Int32), .int (0 : Int32), .int (0 : Int32), .int (1 : Int32)]) (rest := []) (wr := [(a_t, .inr (9, [.ref a_t_text, .int t_length, .int (t_at + (1 : Int32)), .int t_faulty])), (a_t_text, .inl (y 1, 60, .inl t_text))]) ⟨hx, hb, hml, hown, hts⟩ (c_X4_tell l D y fl H.size a_o1 o1_sign o1_number o1_weight o1_rungs (116 : Int32) (0 : Int32) (0 : Int32) (1 : Int32) o1_sign_176 o1_number_176 o1_weight_176 o1_rungs_176 hq_176) (cwV 4 hts gX5_readOrder_X4_tell rfl rfl rfl (by decide +kernel) ⟨Nat.le_of_ble_eq_true rfl, Nat.le_of_ble_eq_true rfl⟩) hK hP hD hS hA [2] [0, 1] rfl rfl rfl rfl (by decide) rfl rfl rfl hl.1 rfl (Nat.le_of_ble_eq_true rfl) dX5_readOrder_176 ⟨Nat.le_of_ble_eq_true rfl, Nat.le_of_ble_eq_true rfl⟩ (fun H locs hP hD hS => ?_)
              have hP : va_P D vwCl [(a_t, .inr (9, [.ref a_t_text, .int t_length, .int (t_at + (1 : Int32)), .int t_faulty])), (a_t_text, .inl (y 1, 60, .inl t_text)), (a_o1, .inr (8, [.int o1_sign_176, .int o1_number_176, .int o1_weight_176, .int o1_rungs_176]))] H := hP
              have hD : va_D A [(a_t, .inr (9, [.ref a_t_text, .int t_length, .int (t_at + (1 : Int32)), .int t_faulty])), (a_t_text, .inl (y 1, 60, .inl t_text)), (a_o1, .inr (8, [.int o1_sign_176, .int o1_number_176, .int o1_weight_176, .int o1_rungs_176]))] := hD
              refine lv_goto (tgt := 187) hx hb dX5_readOrder_179 (by decide) ?_
              obtain ⟨e0_187, e1_187, e2_187, e3_187, e4_187, e5_187⟩ := inj6 hF
              rw [← e0_187, ← e1_187, ← e2_187, ← e3_187, ← e4_187, ← e5_187] at hQ0
              rw [hQ0]
              exact ret_v hx hb hr hlocks hAe hK hP hD hS [0, 1, 2] rfl rfl dX5_readOrder_187
            · have hF := iff_ hF c116_6
              by_cases c117_6 : r_1 = (117 : Int32)
              · have hF := ift hF c117_6
                refine lv_lookup (tgt := 108) hx hb dX5_readOrder_6 (by decide) (by first | (rw [c117_6]; done) | (rw [c117_6]; decide +kernel)) (by decide) ?_
                refine lv_aload_n hx hb dX5_readOrder_108 rfl (lv_at hl 1 rfl) ?_
                refine lv_dup hx hb dX5_readOrder_109 rfl ?_
                refine va_get (D := D) (ci := 9) (v := .int t_at) (C := RX5) (T := TX5) (N := 4) hx hb hts iX5_readOrder_X5 hown hK hP 0 rfl rfl 2 (by decide) (hts (.fieldLink RX5 19 "SkipArchive$Reader" "at" "I") (List.mem_of_getElem? (i := 1) rfl)) (fun _ h9 => h9) rfl dX5_readOrder_110 ?_
                refine lv_iconst (v := 1) hx hb dX5_readOrder_113 (by decide) ?_
                refine lv_iadd hx hb dX5_readOrder_114 ?_
                refine va_put (D := D) (ci := 9) (v := .int (t_at + (1 : Int32))) (ty := .int) (C := RX5) (T := TX5) (N := 4) hx hb hts iX5_readOrder_X5 tyX5 tyX5_ok nmX5 hown hK hP hD hS 0 rfl rfl 2 (by decide) (hts (.fieldLink RX5 19 "SkipArchive$Reader" "at" "I") (List.mem_of_getElem? (i := 1) rfl)) (fun _ h9 => h9) rfl (by decide +kernel) rfl rfl (Nat.le_of_ble_eq_true rfl) dX5_readOrder_115 (fun H locs hP hD hS => ?_)
                have hP : va_P D vwCl [(a_t, .inr (9, [.ref a_t_text, .int t_length, .int (t_at + (1 : Int32)), .int t_faulty])), (a_t_text, .inl (y 1, 60, .inl t_text)), (a_o1, .inr (8, [.int o1_sign, .int o1_number, .int o1_weight, .int o1_rungs]))] H := hP
                have hD : va_D A [(a_t, .inr (9, [.ref a_t_text, .int t_length, .int (t_at + (1 : Int32)), .int t_faulty])), (a_t_text, .inl (y 1, 60, .inl t_text)), (a_o1, .inr (8, [.int o1_sign, .int o1_number, .int o1_weight, .int o1_rungs]))] := hD
                refine lv_aload_n hx hb dX5_readOrder_118 rfl (lv_at hl 2 rfl) ?_
                refine lv_iload_n hx hb dX5_readOrder_119 rfl (lv_at hl 0 rfl) ?_
                refine lv_i2c hx hb dX5_readOrder_120 rfl ?_
                refine lv_aload_n hx hb dX5_readOrder_121 rfl (lv_at hl 1 rfl) ?_
                refine lv_iconst (v := 3) hx hb dX5_readOrder_122 (by decide) ?_
                obtain ⟨r_123bb, t_at_123bb, t_faulty_123bb, hq_123bb, hF⟩ := bn3_i hF
                refine cm_Vi (As := [.int (3 : Int32)]) (rest := [.int ((r_1.toUInt32 % 65536).toInt32), .ref a_o1]) (wr := [(a_o1, .inr (8, [.int o1_sign, .int o1_number, .int o1_weight, .int o1_rungs]))]) ⟨hx, hb, hml, hown, hts⟩ (c_X5_readNumber l D y fl H.size a_t a_t_text t_length (t_at + (1 : Int32)) t_faulty t_text (3 : Int32) r_123bb t_at_123bb t_faulty_123bb hq_123bb) (cwV 1 hts gX5_readOrder_X5_readNumber rfl rfl rfl (by decide +kernel) ⟨Nat.le_of_ble_eq_true rfl, Nat.le_of_ble_eq_true rfl⟩) hK hP hD hS hA [0, 1] [2] rfl rfl rfl rfl (by decide) rfl rfl rfl hl.1 rfl (Nat.le_of_ble_eq_true rfl) dX5_readOrder_123 ⟨Nat.le_of_ble_eq_true rfl, Nat.le_of_ble_eq_true rfl⟩ (fun H locs hP hD hS => ?_)
                have hP : va_P D vwCl [(a_o1, .inr (8, [.int o1_sign, .int o1_number, .int o1_weight, .int o1_rungs])), (a_t, .inr (9, [.ref a_t_text, .int t_length, .int t_at_123bb, .int t_faulty_123bb])), (a_t_text, .inl (y 1, 60, .inl t_text))] H := hP
                have hD : va_D A [(a_o1, .inr (8, [.int o1_sign, .int o1_number, .int o1_weight, .int o1_rungs])), (a_t, .inr (9, [.ref a_t_text, .int t_length, .int t_at_123bb, .int t_faulty_123bb])), (a_t_text, .inl (y 1, 60, .inl t_text))] := hD
                refine lv_iconst (v := 0) hx hb dX5_readOrder_126 (by decide) ?_
                refine lv_iconst (v := 1) hx hb dX5_readOrder_127 (by decide) ?_
                obtain ⟨o1_sign_128bb, o1_number_128bb, o1_weight_128bb, o1_rungs_128bb, hq_128bb, hF⟩ := bn4_i hF
                refine cm_Vv (As := [.int ((r_1.toUInt32 % 65536).toInt32), .int r_123bb, .int (0 : Int32), .int (1 : Int32)]) (rest := []) (wr := [(a_t, .inr (9, [.ref a_t_text, .int t_length, .int t_at_123bb, .int t_faulty_123bb])), (a_t_text, .inl (y 1, 60, .inl t_text))]) ⟨hx, hb, hml, hown, hts⟩ (c_X4_tell l D y fl H.size a_o1 o1_sign o1_number o1_weight o1_rungs ((r_1.toUInt32 % 65536).toInt32) r_123bb (0 : Int32) (1 : Int32) o1_sign_128bb o1_number_128bb o1_weight_128bb o1_rungs_128bb hq_128bb) (cwV 4 hts gX5_readOrder_X4_tell rfl rfl rfl (by decide +kernel) ⟨Nat.le_of_ble_eq_true rfl, Nat.le_of_ble_eq_true rfl⟩) hK hP hD hS hA [0] [1, 2] rfl rfl rfl rfl (by decide) rfl rfl rfl hl.1 rfl (Nat.le_of_ble_eq_true rfl) dX5_readOrder_128 ⟨Nat.le_of_ble_eq_true rfl, Nat.le_of_ble_eq_true rfl⟩ (fun H locs hP hD hS => ?_)
                have hP : va_P D vwCl [(a_t, .inr (9, [.ref a_t_text, .int t_length, .int t_at_123bb, .int t_faulty_123bb])), (a_t_text, .inl (y 1, 60, .inl t_text)), (a_o1, .inr (8, [.int o1_sign_128bb, .int o1_number_128bb, .int o1_weight_128bb, .int o1_rungs_128bb]))] H := hP
                have hD : va_D A [(a_t, .inr (9, [.ref a_t_text, .int t_length, .int t_at_123bb, .int t_faulty_123bb])), (a_t_text, .inl (y 1, 60, .inl t_text)), (a_o1, .inr (8, [.int o1_sign_128bb, .int o1_number_128bb, .int o1_weight_128bb, .int o1_rungs_128bb]))] := hD
                refine lv_goto (tgt := 187) hx hb dX5_readOrder_131 (by decide) ?_
                obtain ⟨e0_187, e1_187, e2_187, e3_187, e4_187, e5_187⟩ := inj6 hF
                rw [← e0_187, ← e1_187, ← e2_187, ← e3_187, ← e4_187, ← e5_187] at hQ0
                rw [hQ0]
                exact ret_v hx hb hr hlocks hAe hK hP hD hS [0, 1, 2] rfl rfl dX5_readOrder_187
              · have hF := iff_ hF c117_6
                by_cases c119_6 : r_1 = (119 : Int32)
                · have hF := ift hF c119_6
                  refine lv_lookup (tgt := 88) hx hb dX5_readOrder_6 (by decide) (by first | (rw [c119_6]; done) | (rw [c119_6]; decide +kernel)) (by decide) ?_
                  refine lv_aload_n hx hb dX5_readOrder_88 rfl (lv_at hl 1 rfl) ?_
                  refine lv_dup hx hb dX5_readOrder_89 rfl ?_
                  refine va_get (D := D) (ci := 9) (v := .int t_at) (C := RX5) (T := TX5) (N := 4) hx hb hts iX5_readOrder_X5 hown hK hP 0 rfl rfl 2 (by decide) (hts (.fieldLink RX5 19 "SkipArchive$Reader" "at" "I") (List.mem_of_getElem? (i := 1) rfl)) (fun _ h9 => h9) rfl dX5_readOrder_90 ?_
                  refine lv_iconst (v := 1) hx hb dX5_readOrder_93 (by decide) ?_
                  refine lv_iadd hx hb dX5_readOrder_94 ?_
                  refine va_put (D := D) (ci := 9) (v := .int (t_at + (1 : Int32))) (ty := .int) (C := RX5) (T := TX5) (N := 4) hx hb hts iX5_readOrder_X5 tyX5 tyX5_ok nmX5 hown hK hP hD hS 0 rfl rfl 2 (by decide) (hts (.fieldLink RX5 19 "SkipArchive$Reader" "at" "I") (List.mem_of_getElem? (i := 1) rfl)) (fun _ h9 => h9) rfl (by decide +kernel) rfl rfl (Nat.le_of_ble_eq_true rfl) dX5_readOrder_95 (fun H locs hP hD hS => ?_)
                  have hP : va_P D vwCl [(a_t, .inr (9, [.ref a_t_text, .int t_length, .int (t_at + (1 : Int32)), .int t_faulty])), (a_t_text, .inl (y 1, 60, .inl t_text)), (a_o1, .inr (8, [.int o1_sign, .int o1_number, .int o1_weight, .int o1_rungs]))] H := hP
                  have hD : va_D A [(a_t, .inr (9, [.ref a_t_text, .int t_length, .int (t_at + (1 : Int32)), .int t_faulty])), (a_t_text, .inl (y 1, 60, .inl t_text)), (a_o1, .inr (8, [.int o1_sign, .int o1_number, .int o1_weight, .int o1_rungs]))] := hD
                  refine lv_aload_n hx hb dX5_readOrder_98 rfl (lv_at hl 1 rfl) ?_
                  refine lv_aload_n hx hb dX5_readOrder_99 rfl (lv_at hl 2 rfl) ?_
                  refine lv_bipush (v := 119) hx hb dX5_readOrder_100 (by decide) ?_
                  obtain ⟨t_at_102, t_faulty_102, o1_sign_102, o1_number_102, o1_weight_102, o1_rungs_102, hq_102, hF⟩ := bn6_i hF
                  refine cm_Vv (As := [.ref a_o1, .int (119 : Int32)]) (rest := []) (wr := []) ⟨hx, hb, hml, hown, hts⟩ (c_X5_readKeyAndWeight l D y fl H.size a_t a_t_text a_o1 t_length (t_at + (1 : Int32)) t_faulty t_text o1_sign o1_number o1_weight o1_rungs (119 : Int32) t_at_102 t_faulty_102 o1_sign_102 o1_number_102 o1_weight_102 o1_rungs_102 hq_102) (cwV 2 hts gX5_readOrder_X5_readKeyAndWeight rfl rfl rfl (by decide +kernel) ⟨Nat.le_of_ble_eq_true rfl, Nat.le_of_ble_eq_true rfl⟩) hK hP hD hS hA [0, 1, 2] [] rfl rfl rfl rfl (by decide) rfl rfl rfl hl.1 rfl (Nat.le_of_ble_eq_true rfl) dX5_readOrder_102 ⟨Nat.le_of_ble_eq_true rfl, Nat.le_of_ble_eq_true rfl⟩ (fun H locs hP hD hS => ?_)
                  have hP : va_P D vwCl [(a_t, .inr (9, [.ref a_t_text, .int t_length, .int t_at_102, .int t_faulty_102])), (a_t_text, .inl (y 1, 60, .inl t_text)), (a_o1, .inr (8, [.int o1_sign_102, .int o1_number_102, .int o1_weight_102, .int o1_rungs_102]))] H := hP
                  have hD : va_D A [(a_t, .inr (9, [.ref a_t_text, .int t_length, .int t_at_102, .int t_faulty_102])), (a_t_text, .inl (y 1, 60, .inl t_text)), (a_o1, .inr (8, [.int o1_sign_102, .int o1_number_102, .int o1_weight_102, .int o1_rungs_102]))] := hD
                  refine lv_goto (tgt := 187) hx hb dX5_readOrder_105 (by decide) ?_
                  obtain ⟨e0_187, e1_187, e2_187, e3_187, e4_187, e5_187⟩ := inj6 hF
                  rw [← e0_187, ← e1_187, ← e2_187, ← e3_187, ← e4_187, ← e5_187] at hQ0
                  rw [hQ0]
                  exact ret_v hx hb hr hlocks hAe hK hP hD hS [0, 1, 2] rfl rfl dX5_readOrder_187
                · have hF := iff_ hF c119_6
                  refine lv_lookup (tgt := 182) (off := 176) hx hb dX5_readOrder_6 (by decide) (by refine (lv_osw c43_6 (by decide)).trans ?_; refine (lv_osw c45_6 (by decide)).trans ?_; refine (lv_osw c100_6 (by decide)).trans ?_; refine (lv_osw c102_6 (by decide)).trans ?_; refine (lv_osw c114_6 (by decide)).trans ?_; refine (lv_osw c116_6 (by decide)).trans ?_; refine (lv_osw c117_6 (by decide)).trans ?_; refine (lv_osw c119_6 (by decide)).trans ?_; rfl) (by decide) ?_
                  refine lv_aload_n hx hb dX5_readOrder_182 rfl (lv_at hl 1 rfl) ?_
                  refine lv_iconst (v := 1) hx hb dX5_readOrder_183 (by decide) ?_
                  refine va_put (D := D) (ci := 9) (v := .int (1 : Int32)) (ty := .boolean) (C := RX5) (T := TX5) (N := 4) hx hb hts iX5_readOrder_X5 tyX5 tyX5_ok nmX5 hown hK hP hD hS 0 rfl rfl 3 (by decide) (hts (.fieldLink RX5 22 "SkipArchive$Reader" "faulty" "Z") (List.mem_of_getElem? (i := 2) rfl)) (fun _ h9 => h9) rfl (by decide +kernel) (by decide +kernel) (by decide +kernel) (Nat.le_of_ble_eq_true rfl) dX5_readOrder_184 (fun H locs hP hD hS => ?_)
                  have hP : va_P D vwCl [(a_t, .inr (9, [.ref a_t_text, .int t_length, .int t_at, .int (1 : Int32)])), (a_t_text, .inl (y 1, 60, .inl t_text)), (a_o1, .inr (8, [.int o1_sign, .int o1_number, .int o1_weight, .int o1_rungs]))] H := hP
                  have hD : va_D A [(a_t, .inr (9, [.ref a_t_text, .int t_length, .int t_at, .int (1 : Int32)])), (a_t_text, .inl (y 1, 60, .inl t_text)), (a_o1, .inr (8, [.int o1_sign, .int o1_number, .int o1_weight, .int o1_rungs]))] := hD
                  obtain ⟨e0_187, e1_187, e2_187, e3_187, e4_187, e5_187⟩ := inj6 hF
                  rw [← e0_187, ← e1_187, ← e2_187, ← e3_187, ← e4_187, ← e5_187] at hQ0
                  rw [hQ0]
                  exact ret_v hx hb hr hlocks hAe hK hP hD hS [0, 1, 2] rfl rfl dX5_readOrder_187
def F_X5_passSeparator (fl : Nat) (t_length : Int32) (t_at : Int32) (t_faulty : Int32) (t_text : Nat → Int32) : Option (Int32 × Int32 × Int32) := if t_faulty = 0 then (bn (F_X5_look fl t_length t_at t_text) fun r_8 => if r_8 = (-1 : Int32) then (some ((0 : Int32), t_at, t_faulty)) else (bn3 (F_X5_pass fl t_length t_at t_faulty t_text (59 : Int32)) fun r_20 t_at_20 t_faulty_20 => gd (okB r_20 = true) (some (r_20, t_at_20, t_faulty_20)))) else (some ((0 : Int32), t_at, t_faulty))
theorem iX5_passSeparator_X5 : ∀ w ∈ u_ws RX5 TX5 4, w ∈ wsX5_passSeparator := fun w h => List.mem_cons_of_mem _ (List.mem_append_left _ (List.mem_append_right _ h))
set_option maxHeartbeats 4000000 in
set_option maxRecDepth 100000 in
theorem c_X5_passSeparator (l : Launch) (D : va_G) (y : Nat → ClassId) (fl : Nat) (sz : Nat) (a_t : Nat) (a_t_text : Nat) (t_length : Int32) (t_at : Int32) (t_faulty : Int32) (t_text : Nat → Int32) (r : Int32) (t_at' : Int32) (t_faulty' : Int32) (hF : F_X5_passSeparator fl t_length t_at t_faulty t_text = some (r, t_at', t_faulty')) : Met l yX5_passSeparator wsX5_passSeparator (rmq 2 41) (wrP D y [(a_t, .inr (9, [.ref a_t_text, .int t_length, .int t_at, .int t_faulty])), (a_t_text, .inl (y 1, 60, .inl t_text))] sz [.ref a_t]) (wQi D y r [(a_t, .inr (9, [.ref a_t_text, .int t_length, .int t_at', .int t_faulty'])), (a_t_text, .inl (y 1, 60, .inl t_text))] [(a_t, .inr (9, [.ref a_t_text, .int t_length, .int t_at, .int t_faulty])), (a_t_text, .inl (y 1, 60, .inl t_text))] sz) 0 0 (va_A [(a_t, .inr (9, [.ref a_t_text, .int t_length, .int t_at, .int t_faulty])), (a_t_text, .inl (y 1, 60, .inl t_text))] sz) := by
  refine Met.ofW (cc := cX5_passSeparator) (maxL := 1) (ret := (some .boolean)) (by decide) rfl ?_
  intro p e s m args below meth c s₁ B hml hv
  obtain ⟨hav, hsz, hP, hK, hD0⟩ := hv
  have hx := B.exec
  have hb := B.bytes
  have hr := B.returns
  have hts := atoms_spec (ws := wsX5_passSeparator) B.pre
  have hown : s.vm.findClass RX5 = some m.cls := findClass_of_methodNamed B.named
  have hlocks := B.notSynchronized
  subst hsz
  have hD := hD0.self (sz := s.heap.size)
  obtain ⟨A, hAe⟩ : ∃ A : Nat → Prop, va_A [(a_t, .inr (9, [.ref a_t_text, .int t_length, .int t_at, .int t_faulty])), (a_t_text, .inl (y 1, 60, .inl t_text))] s.heap.size = A := ⟨_, rfl⟩
  rw [hAe] at hD
  have hA : ∀ q, s.heap.size ≤ q → A q := fun q h => by rw [← hAe]; exact Or.inr h
  have hS : va_S A s.heap s.heap [] := va_S.rf
  refine W_q (R1 := (rmq 2 41)) rfl (fun Q0 hQ0 => ?_)
  unfold F_X5_passSeparator at hF
  refine W_entry hav (Nat.le_of_ble_eq_true rfl) (fun ls hl => ?_)
  have hl : lv_has ls 1 [(0, .ref a_t)] := hl
  refine lv_aload_n hx hb dX5_passSeparator_0 rfl (lv_at hl 0 rfl) ?_
  refine va_get (D := D) (ci := 9) (v := .int t_faulty) (C := RX5) (T := TX5) (N := 4) hx hb hts iX5_passSeparator_X5 hown hK hP 0 rfl rfl 3 (by decide) (hts (.fieldLink RX5 22 "SkipArchive$Reader" "faulty" "Z") (List.mem_of_getElem? (i := 1) rfl)) (fun _ h9 => h9) rfl dX5_passSeparator_1 ?_
  refine lv_if_ne (tgt := 15) hx hb dX5_passSeparator_4 (by decide) (fun c_4 => ?_) (fun c_4 => ?_)
  · have hF := iff_ hF c_4
    refine lv_iconst (v := 0) hx hb dX5_passSeparator_15 (by decide) ?_
    obtain ⟨e0_16, e1_16, e2_16⟩ := inj3 hF
    rw [← e0_16, ← e1_16, ← e2_16] at hQ0
    rw [hQ0]
    exact ret_z hx hb hr (by decide +kernel) hlocks hAe hK hP hD hS [0, 1] rfl rfl dX5_passSeparator_16
  · have hF := ift hF c_4
    refine lv_aload_n hx hb dX5_passSeparator_7 rfl (lv_at hl 0 rfl) ?_
    obtain ⟨r_8, hq_8, hF⟩ := bn_i hF
    refine cr_V (As := []) (rest := []) ⟨hx, hb, hml, hown, hts⟩ (c_X5_look l D y fl a_t a_t_text t_length t_at t_faulty t_text r_8 hq_8) (cwV 0 hts gX5_passSeparator_X5_look rfl rfl rfl (by decide +kernel) ⟨Nat.le_of_ble_eq_true rfl, Nat.le_of_ble_eq_true rfl⟩) hK hP [0, 1] rfl rfl rfl rfl hl.1 rfl (Nat.le_of_ble_eq_true rfl) dX5_passSeparator_8 ⟨Nat.le_of_ble_eq_true rfl, Nat.le_of_ble_eq_true rfl⟩ ?_
    refine lv_iconst (v := -1) hx hb dX5_passSeparator_11 (by decide) ?_
    refine lv_icmp_ne (tgt := 17) hx hb dX5_passSeparator_12 (by decide) (fun c_12 => ?_) (fun c_12 => ?_)
    · have hF := iff_ hF c_12
      refine lv_aload_n hx hb dX5_passSeparator_17 rfl (lv_at hl 0 rfl) ?_
      refine lv_bipush (v := 59) hx hb dX5_passSeparator_18 (by decide) ?_
      obtain ⟨r_20, t_at_20, t_faulty_20, hq_20, hF⟩ := bn3_i hF
      refine cm_Vi (As := [.int (59 : Int32)]) (rest := []) (wr := []) ⟨hx, hb, hml, hown, hts⟩ (c_X5_pass l D y fl s.heap.size a_t a_t_text t_length t_at t_faulty t_text (59 : Int32) r_20 t_at_20 t_faulty_20 hq_20) (cwV 1 hts gX5_passSeparator_X5_pass rfl rfl rfl (by decide +kernel) ⟨Nat.le_of_ble_eq_true rfl, Nat.le_of_ble_eq_true rfl⟩) hK hP hD hS hA [0, 1] [] rfl rfl rfl rfl (by decide) rfl rfl rfl hl.1 rfl (Nat.le_of_ble_eq_true rfl) dX5_passSeparator_20 ⟨Nat.le_of_ble_eq_true rfl, Nat.le_of_ble_eq_true rfl⟩ (fun H locs hP hD hS => ?_)
      have hP : va_P D vwCl [(a_t, .inr (9, [.ref a_t_text, .int t_length, .int t_at_20, .int t_faulty_20])), (a_t_text, .inl (y 1, 60, .inl t_text))] H := hP
      have hD : va_D A [(a_t, .inr (9, [.ref a_t_text, .int t_length, .int t_at_20, .int t_faulty_20])), (a_t_text, .inl (y 1, 60, .inl t_text))] := hD
      obtain ⟨g_23, hF⟩ := gd_i hF
      obtain ⟨e0_23, e1_23, e2_23⟩ := inj3 hF
      rw [← e0_23, ← e1_23, ← e2_23] at hQ0
      rw [hQ0]
      exact ret_z hx hb hr (okB_n g_23).1 hlocks hAe hK hP hD hS [0, 1] rfl rfl dX5_passSeparator_23
    · have hF := ift hF c_12
      refine lv_iconst (v := 0) hx hb dX5_passSeparator_15 (by decide) ?_
      obtain ⟨e0_16, e1_16, e2_16⟩ := inj3 hF
      rw [← e0_16, ← e1_16, ← e2_16] at hQ0
      rw [hQ0]
      exact ret_z hx hb hr (by decide +kernel) hlocks hAe hK hP hD hS [0, 1] rfl rfl dX5_passSeparator_16
def F_X5_findFault_8 (fl : Nat) (t_length : Int32) (t_text : Nat → Int32) : Nat → Int32 → Int32 → Int32 → Int32 → Int32 → Int32 → Int32 → Int32 → Option (Int32 × Int32 × Int32 × Int32 × Int32 × Int32 × Int32)
  | 0, _, _, _, _, _, _, _, _ => none
  | n + 1, t_at_w, t_faulty_w, o1_sign_w, o1_number_w, o1_weight_w, o1_rungs_w, x2, x3 => if x2 = 0 then (if t_faulty_w = 0 then (some ((-1 : Int32), t_at_w, t_faulty_w, o1_sign_w, o1_number_w, o1_weight_w, o1_rungs_w)) else (some (t_at_w, t_at_w, t_faulty_w, o1_sign_w, o1_number_w, o1_weight_w, o1_rungs_w))) else (if (60 : Int32) ≤ x3 then (if t_faulty_w = 0 then (some ((-1 : Int32), t_at_w, t_faulty_w, o1_sign_w, o1_number_w, o1_weight_w, o1_rungs_w)) else (some (t_at_w, t_at_w, t_faulty_w, o1_sign_w, o1_number_w, o1_weight_w, o1_rungs_w))) else (bn6 (F_X5_readOrder fl t_length t_at_w t_faulty_w t_text o1_sign_w o1_number_w o1_weight_w o1_rungs_w) fun t_at_20 t_faulty_20 o1_sign_20 o1_number_20 o1_weight_20 o1_rungs_20 => bn3 (F_X5_passSeparator fl t_length t_at_20 t_faulty_20 t_text) fun r_24 t_at_24 t_faulty_24 => F_X5_findFault_8 fl t_length t_text n t_at_24 t_faulty_24 o1_sign_20 o1_number_20 o1_weight_20 o1_rungs_20 r_24 (x3 + (1 : Int32))))
def F_X5_findFault (fl : Nat) (t_length : Int32) (t_at : Int32) (t_faulty : Int32) (t_text : Nat → Int32) (o1_sign : Int32) (o1_number : Int32) (o1_weight : Int32) (o1_rungs : Int32) : Option (Int32 × Int32 × Int32 × Int32 × Int32 × Int32 × Int32) := bn2 (F_X5_rewind fl t_at t_faulty) fun t_at_1 t_faulty_1 => F_X5_findFault_8 fl t_length t_text fl t_at_1 t_faulty_1 o1_sign o1_number o1_weight o1_rungs (1 : Int32) (0 : Int32)
theorem iX5_findFault_X5 : ∀ w ∈ u_ws RX5 TX5 4, w ∈ wsX5_findFault := fun w h => List.mem_cons_of_mem _ (List.mem_append_left _ (List.mem_append_left _ (List.mem_append_right _ h)))
set_option maxHeartbeats 4000000 in
set_option maxRecDepth 100000 in
theorem c_X5_findFault (l : Launch) (D : va_G) (y : Nat → ClassId) (fl : Nat) (sz : Nat) (a_t : Nat) (a_t_text : Nat) (a_o1 : Nat) (t_length : Int32) (t_at : Int32) (t_faulty : Int32) (t_text : Nat → Int32) (o1_sign : Int32) (o1_number : Int32) (o1_weight : Int32) (o1_rungs : Int32) (r : Int32) (t_at' : Int32) (t_faulty' : Int32) (o1_sign' : Int32) (o1_number' : Int32) (o1_weight' : Int32) (o1_rungs' : Int32) (hF : F_X5_findFault fl t_length t_at t_faulty t_text o1_sign o1_number o1_weight o1_rungs = some (r, t_at', t_faulty', o1_sign', o1_number', o1_weight', o1_rungs')) : Met l yX5_findFault wsX5_findFault (rmq 5 109) (wrP D y [(a_t, .inr (9, [.ref a_t_text, .int t_length, .int t_at, .int t_faulty])), (a_t_text, .inl (y 1, 60, .inl t_text)), (a_o1, .inr (8, [.int o1_sign, .int o1_number, .int o1_weight, .int o1_rungs]))] sz [.ref a_t, .ref a_o1]) (wQi D y r [(a_t, .inr (9, [.ref a_t_text, .int t_length, .int t_at', .int t_faulty'])), (a_t_text, .inl (y 1, 60, .inl t_text)), (a_o1, .inr (8, [.int o1_sign', .int o1_number', .int o1_weight', .int o1_rungs']))] [(a_t, .inr (9, [.ref a_t_text, .int t_length, .int t_at, .int t_faulty])), (a_t_text, .inl (y 1, 60, .inl t_text)), (a_o1, .inr (8, [.int o1_sign, .int o1_number, .int o1_weight, .int o1_rungs]))] sz) 0 0 (va_A [(a_t, .inr (9, [.ref a_t_text, .int t_length, .int t_at, .int t_faulty])), (a_t_text, .inl (y 1, 60, .inl t_text)), (a_o1, .inr (8, [.int o1_sign, .int o1_number, .int o1_weight, .int o1_rungs]))] sz) := by
  refine Met.ofW (cc := cX5_findFault) (maxL := 4) (ret := (some .int)) (by decide) rfl ?_
  intro p e s m args below meth c s₁ B hml hv
  obtain ⟨hav, hsz, hP, hK, hD0⟩ := hv
  have hx := B.exec
  have hb := B.bytes
  have hr := B.returns
  have hts := atoms_spec (ws := wsX5_findFault) B.pre
  have hown : s.vm.findClass RX5 = some m.cls := findClass_of_methodNamed B.named
  have hlocks := B.notSynchronized
  subst hsz
  have hD := hD0.self (sz := s.heap.size)
  obtain ⟨A, hAe⟩ : ∃ A : Nat → Prop, va_A [(a_t, .inr (9, [.ref a_t_text, .int t_length, .int t_at, .int t_faulty])), (a_t_text, .inl (y 1, 60, .inl t_text)), (a_o1, .inr (8, [.int o1_sign, .int o1_number, .int o1_weight, .int o1_rungs]))] s.heap.size = A := ⟨_, rfl⟩
  rw [hAe] at hD
  have hA : ∀ q, s.heap.size ≤ q → A q := fun q h => by rw [← hAe]; exact Or.inr h
  have hS : va_S A s.heap s.heap [] := va_S.rf
  refine W_q (R1 := (rmq 5 109)) rfl (fun Q0 hQ0 => ?_)
  unfold F_X5_findFault at hF
  have k_8 : ∀ (n : Nat) (t_at_w : Int32) (t_faulty_w : Int32) (o1_sign_w : Int32) (o1_number_w : Int32) (o1_weight_w : Int32) (o1_rungs_w : Int32) (x2 : Int32) (x3 : Int32), F_X5_findFault_8 fl t_length t_text n t_at_w t_faulty_w o1_sign_w o1_number_w o1_weight_w o1_rungs_w x2 x3 = some (r, t_at', t_faulty', o1_sign', o1_number', o1_weight', o1_rungs') → ∀ (H : Heap) (locs : List Loc), va_P D vwCl [(a_t, .inr (9, [.ref a_t_text, .int t_length, .int t_at_w, .int t_faulty_w])), (a_t_text, .inl (y 1, 60, .inl t_text)), (a_o1, .inr (8, [.int o1_sign_w, .int o1_number_w, .int o1_weight_w, .int o1_rungs_w]))] H → va_D A [(a_t, .inr (9, [.ref a_t_text, .int t_length, .int t_at_w, .int t_faulty_w])), (a_t_text, .inl (y 1, 60, .inl t_text)), (a_o1, .inr (8, [.int o1_sign_w, .int o1_number_w, .int o1_weight_w, .int o1_rungs_w]))] → va_S A s.heap H locs → ∀ (ls : Array Slot), lv_has ls 4 [(0, .ref a_t), (1, .ref a_o1), (2, .int x2), (3, .int x3)] → W p l e (rmq 5 109) s m args below meth c H locs 0 0 Q0 (F0 m 8 ls []) := by
    intro n
    induction n with
    | zero => intro t_at_w t_faulty_w o1_sign_w o1_number_w o1_weight_w o1_rungs_w x2 x3 hF; rw [F_X5_findFault_8] at hF; cases hF
    | succ n ih =>
      intro t_at_w t_faulty_w o1_sign_w o1_number_w o1_weight_w o1_rungs_w x2 x3 hF H locs hP hD hS ls hl
      rw [F_X5_findFault_8] at hF
      refine lv_iload_n hx hb dX5_findFault_8 rfl (lv_at hl 2 rfl) ?_
      refine lv_if_eq (tgt := 34) hx hb dX5_findFault_9 (by decide) (fun c_9 => ?_) (fun c_9 => ?_)
      · have hF := ift hF c_9
        refine lv_aload_n hx hb dX5_findFault_34 rfl (lv_at hl 0 rfl) ?_
        refine va_get (D := D) (ci := 9) (v := .int t_faulty_w) (C := RX5) (T := TX5) (N := 4) hx hb hts iX5_findFault_X5 hown hK hP 0 rfl rfl 3 (by decide) (hts (.fieldLink RX5 22 "SkipArchive$Reader" "faulty" "Z") (List.mem_of_getElem? (i := 1) rfl)) (fun _ h9 => h9) rfl dX5_findFault_35 ?_
        refine lv_if_eq (tgt := 48) hx hb dX5_findFault_38 (by decide) (fun c_38 => ?_) (fun c_38 => ?_)
        · have hF := ift hF c_38
          refine lv_iconst (v := -1) hx hb dX5_findFault_48 (by decide) ?_
          obtain ⟨e0_49, e1_49, e2_49, e3_49, e4_49, e5_49, e6_49⟩ := inj7 hF
          rw [← e0_49, ← e1_49, ← e2_49, ← e3_49, ← e4_49, ← e5_49, ← e6_49] at hQ0
          rw [hQ0]
          exact ret_i hx hb hr hlocks hAe hK hP hD hS [0, 1, 2] rfl rfl dX5_findFault_49
        · have hF := iff_ hF c_38
          refine lv_aload_n hx hb dX5_findFault_41 rfl (lv_at hl 0 rfl) ?_
          refine va_get (D := D) (ci := 9) (v := .int t_at_w) (C := RX5) (T := TX5) (N := 4) hx hb hts iX5_findFault_X5 hown hK hP 0 rfl rfl 2 (by decide) (hts (.fieldLink RX5 19 "SkipArchive$Reader" "at" "I") (List.mem_of_getElem? (i := 2) rfl)) (fun _ h9 => h9) rfl dX5_findFault_42 ?_
          refine lv_goto (tgt := 49) hx hb dX5_findFault_45 (by decide) ?_
          obtain ⟨e0_49, e1_49, e2_49, e3_49, e4_49, e5_49, e6_49⟩ := inj7 hF
          rw [← e0_49, ← e1_49, ← e2_49, ← e3_49, ← e4_49, ← e5_49, ← e6_49] at hQ0
          rw [hQ0]
          exact ret_i hx hb hr hlocks hAe hK hP hD hS [0, 1, 2] rfl rfl dX5_findFault_49
      · have hF := iff_ hF c_9
        refine lv_iload_n hx hb dX5_findFault_12 rfl (lv_at hl 3 rfl) ?_
        refine lv_bipush (v := 60) hx hb dX5_findFault_13 (by decide) ?_
        refine lv_icmp_ge (tgt := 34) hx hb dX5_findFault_15 (by decide) (fun c_15 => ?_) (fun c_15 => ?_)
        · have hF := ift hF c_15
          refine lv_aload_n hx hb dX5_findFault_34 rfl (lv_at hl 0 rfl) ?_
          refine va_get (D := D) (ci := 9) (v := .int t_faulty_w) (C := RX5) (T := TX5) (N := 4) hx hb hts iX5_findFault_X5 hown hK hP 0 rfl rfl 3 (by decide) (hts (.fieldLink RX5 22 "SkipArchive$Reader" "faulty" "Z") (List.mem_of_getElem? (i := 1) rfl)) (fun _ h9 => h9) rfl dX5_findFault_35 ?_
          refine lv_if_eq (tgt := 48) hx hb dX5_findFault_38 (by decide) (fun c_38b => ?_) (fun c_38b => ?_)
          · have hF := ift hF c_38b
            refine lv_iconst (v := -1) hx hb dX5_findFault_48 (by decide) ?_
            obtain ⟨e0_49, e1_49, e2_49, e3_49, e4_49, e5_49, e6_49⟩ := inj7 hF
            rw [← e0_49, ← e1_49, ← e2_49, ← e3_49, ← e4_49, ← e5_49, ← e6_49] at hQ0
            rw [hQ0]
            exact ret_i hx hb hr hlocks hAe hK hP hD hS [0, 1, 2] rfl rfl dX5_findFault_49
          · have hF := iff_ hF c_38b
            refine lv_aload_n hx hb dX5_findFault_41 rfl (lv_at hl 0 rfl) ?_
            refine va_get (D := D) (ci := 9) (v := .int t_at_w) (C := RX5) (T := TX5) (N := 4) hx hb hts iX5_findFault_X5 hown hK hP 0 rfl rfl 2 (by decide) (hts (.fieldLink RX5 19 "SkipArchive$Reader" "at" "I") (List.mem_of_getElem? (i := 2) rfl)) (fun _ h9 => h9) rfl dX5_findFault_42 ?_
            refine lv_goto (tgt := 49) hx hb dX5_findFault_45 (by decide) ?_
            obtain ⟨e0_49, e1_49, e2_49, e3_49, e4_49, e5_49, e6_49⟩ := inj7 hF
            rw [← e0_49, ← e1_49, ← e2_49, ← e3_49, ← e4_49, ← e5_49, ← e6_49] at hQ0
            rw [hQ0]
            exact ret_i hx hb hr hlocks hAe hK hP hD hS [0, 1, 2] rfl rfl dX5_findFault_49
        · have hF := iff_ hF c_15
          refine lv_aload_n hx hb dX5_findFault_18 rfl (lv_at hl 0 rfl) ?_
          refine lv_aload_n hx hb dX5_findFault_19 rfl (lv_at hl 1 rfl) ?_
          obtain ⟨t_at_20, t_faulty_20, o1_sign_20, o1_number_20, o1_weight_20, o1_rungs_20, hq_20, hF⟩ := bn6_i hF
          refine cm_Vv (As := [.ref a_o1]) (rest := []) (wr := []) ⟨hx, hb, hml, hown, hts⟩ (c_X5_readOrder l D y fl H.size a_t a_t_text a_o1 t_length t_at_w t_faulty_w t_text o1_sign_w o1_number_w o1_weight_w o1_rungs_w t_at_20 t_faulty_20 o1_sign_20 o1_number_20 o1_weight_20 o1_rungs_20 hq_20) (cwV 1 hts gX5_findFault_X5_readOrder rfl rfl rfl (by decide +kernel) ⟨Nat.le_of_ble_eq_true rfl, Nat.le_of_ble_eq_true rfl⟩) hK hP hD hS hA [0, 1, 2] [] rfl rfl rfl rfl (by decide) rfl rfl rfl hl.1 rfl (Nat.le_of_ble_eq_true rfl) dX5_findFault_20 ⟨Nat.le_of_ble_eq_true rfl, Nat.le_of_ble_eq_true rfl⟩ (fun H locs hP hD hS => ?_)
          have hP : va_P D vwCl [(a_t, .inr (9, [.ref a_t_text, .int t_length, .int t_at_20, .int t_faulty_20])), (a_t_text, .inl (y 1, 60, .inl t_text)), (a_o1, .inr (8, [.int o1_sign_20, .int o1_number_20, .int o1_weight_20, .int o1_rungs_20]))] H := hP
          have hD : va_D A [(a_t, .inr (9, [.ref a_t_text, .int t_length, .int t_at_20, .int t_faulty_20])), (a_t_text, .inl (y 1, 60, .inl t_text)), (a_o1, .inr (8, [.int o1_sign_20, .int o1_number_20, .int o1_weight_20, .int o1_rungs_20]))] := hD
          refine lv_aload_n hx hb dX5_findFault_23 rfl (lv_at hl 0 rfl) ?_
          obtain ⟨r_24, t_at_24, t_faulty_24, hq_24, hF⟩ := bn3_i hF
          refine cm_Vi (As := []) (rest := []) (wr := [(a_o1, .inr (8, [.int o1_sign_20, .int o1_number_20, .int o1_weight_20, .int o1_rungs_20]))]) ⟨hx, hb, hml, hown, hts⟩ (c_X5_passSeparator l D y fl H.size a_t a_t_text t_length t_at_20 t_faulty_20 t_text r_24 t_at_24 t_faulty_24 hq_24) (cwV 0 hts gX5_findFault_X5_passSeparator rfl rfl rfl (by decide +kernel) ⟨Nat.le_of_ble_eq_true rfl, Nat.le_of_ble_eq_true rfl⟩) hK hP hD hS hA [0, 1] [2] rfl rfl rfl rfl (by decide) rfl rfl rfl hl.1 rfl (Nat.le_of_ble_eq_true rfl) dX5_findFault_24 ⟨Nat.le_of_ble_eq_true rfl, Nat.le_of_ble_eq_true rfl⟩ (fun H locs hP hD hS => ?_)
          have hP : va_P D vwCl [(a_o1, .inr (8, [.int o1_sign_20, .int o1_number_20, .int o1_weight_20, .int o1_rungs_20])), (a_t, .inr (9, [.ref a_t_text, .int t_length, .int t_at_24, .int t_faulty_24])), (a_t_text, .inl (y 1, 60, .inl t_text))] H := hP
          have hD : va_D A [(a_o1, .inr (8, [.int o1_sign_20, .int o1_number_20, .int o1_weight_20, .int o1_rungs_20])), (a_t, .inr (9, [.ref a_t_text, .int t_length, .int t_at_24, .int t_faulty_24])), (a_t_text, .inl (y 1, 60, .inl t_text))] := hD
          refine lv_istore_n (lv' := [(2, .int r_24), (0, .ref a_t), (1, .ref a_o1), (3, .int x3)]) hx hb dX5_findFault_27 rfl hl (by decide) rfl (fun ls hl => ?_)
          refine lv_iinc (v := x3 + (1 : Int32)) (lv' := [(3, .int (x3 + (1 : Int32))), (2, .int r_24), (0, .ref a_t), (1, .ref a_o1)]) hx hb dX5_findFault_28 hl (k := 3) rfl rfl (by decide) rfl (fun ls hl => ?_)
          refine lv_goto (tgt := 8) hx hb dX5_findFault_31 (by decide) ?_
          exact ih t_at_24 t_faulty_24 o1_sign_20 o1_number_20 o1_weight_20 o1_rungs_20 r_24 (x3 + (1 : Int32)) hF _ _ (hP.sub [1, 2, 0] rfl) (hD.sub [1, 2, 0] (by decide) rfl) hS ls (lv_sub hl [2, 3, 1, 0] rfl)
  refine W_entry hav (Nat.le_of_ble_eq_true rfl) (fun ls hl => ?_)
  have hl : lv_has ls 4 [(0, .ref a_t), (1, .ref a_o1)] := hl
  refine lv_aload_n hx hb dX5_findFault_0 rfl (lv_at hl 0 rfl) ?_
  obtain ⟨t_at_1, t_faulty_1, hq_1, hF⟩ := bn2_i hF
  refine cm_Vv (As := []) (rest := []) (wr := [(a_t_text, .inl (y 1, 60, .inl t_text)), (a_o1, .inr (8, [.int o1_sign, .int o1_number, .int o1_weight, .int o1_rungs]))]) ⟨hx, hb, hml, hown, hts⟩ (c_X5_rewind l D y fl s.heap.size a_t a_t_text t_length t_at t_faulty t_at_1 t_faulty_1 hq_1) (cwV 0 hts gX5_findFault_X5_rewind rfl rfl rfl (by decide +kernel) ⟨Nat.le_of_ble_eq_true rfl, Nat.le_of_ble_eq_true rfl⟩) hK hP hD hS hA [0] [1, 2] rfl rfl rfl rfl (by decide) rfl rfl rfl hl.1 rfl (Nat.le_of_ble_eq_true rfl) dX5_findFault_1 ⟨Nat.le_of_ble_eq_true rfl, Nat.le_of_ble_eq_true rfl⟩ (fun H locs hP hD hS => ?_)
  have hP : va_P D vwCl [(a_t_text, .inl (y 1, 60, .inl t_text)), (a_o1, .inr (8, [.int o1_sign, .int o1_number, .int o1_weight, .int o1_rungs])), (a_t, .inr (9, [.ref a_t_text, .int t_length, .int t_at_1, .int t_faulty_1]))] H := hP
  have hD : va_D A [(a_t_text, .inl (y 1, 60, .inl t_text)), (a_o1, .inr (8, [.int o1_sign, .int o1_number, .int o1_weight, .int o1_rungs])), (a_t, .inr (9, [.ref a_t_text, .int t_length, .int t_at_1, .int t_faulty_1]))] := hD
  refine lv_iconst (v := 1) hx hb dX5_findFault_4 (by decide) ?_
  refine lv_istore_n (lv' := [(2, .int (1 : Int32)), (0, .ref a_t), (1, .ref a_o1)]) hx hb dX5_findFault_5 rfl hl (by decide) rfl (fun ls hl => ?_)
  refine lv_iconst (v := 0) hx hb dX5_findFault_6 (by decide) ?_
  refine lv_istore_n (lv' := [(3, .int (0 : Int32)), (2, .int (1 : Int32)), (0, .ref a_t), (1, .ref a_o1)]) hx hb dX5_findFault_7 rfl hl (by decide) rfl (fun ls hl => ?_)
  exact k_8 fl t_at_1 t_faulty_1 o1_sign o1_number o1_weight o1_rungs (1 : Int32) (0 : Int32) hF _ _ (hP.sub [2, 0, 1] rfl) (hD.sub [2, 0, 1] (by decide) rfl) hS ls (lv_sub hl [2, 3, 1, 0] rfl)
def F_X6_place (fl : Nat) (t_place : Int32) : Option (Int32) := some t_place
theorem iX6_place_X6 : ∀ w ∈ u_ws RX6 TX6 6, w ∈ wsX6_place := fun w h => List.mem_cons_of_mem _ (List.mem_append_right _ h)
set_option maxHeartbeats 4000000 in
set_option maxRecDepth 100000 in
theorem c_X6_place (l : Launch) (D : va_G) (y : Nat → ClassId) (fl : Nat) (a_t : Nat) (a_t_ladder : Nat) (t_place : Int32) (t_level : Int32) (t_gone : Int32) (t_fallen : Int32) (t_spanned : Int32) (r : Int32) (hF : F_X6_place fl t_place = some r) : Met l yX6_place wsX6_place (rmq 0 0) (rdP D y [(a_t, .inr (10, [.ref a_t_ladder, .int t_place, .int t_level, .int t_gone, .int t_fallen, .int t_spanned]))] [.ref a_t]) (QcRead r) 0 0 (fun _ => False) := by
  refine Met.ofW (cc := cX6_place) (maxL := 1) (ret := (some .int)) (by decide) rfl ?_
  intro p e s m args below meth c s₁ B hml hv
  obtain ⟨hav, hP, hK⟩ := hv
  have hx := B.exec
  have hb := B.bytes
  have hr := B.returns
  have hts := atoms_spec (ws := wsX6_place) B.pre
  have hown : s.vm.findClass RX6 = some m.cls := findClass_of_methodNamed B.named
  have hlocks := B.notSynchronized
  refine W_q (R1 := (rmq 0 0)) rfl (fun Q0 hQ0 => ?_)
  unfold F_X6_place at hF
  refine W_entry hav (Nat.le_of_ble_eq_true rfl) (fun ls hl => ?_)
  have hl : lv_has ls 1 [(0, .ref a_t)] := hl
  refine lv_aload_n hx hb dX6_place_0 rfl (lv_at hl 0 rfl) ?_
  refine va_get (D := D) (ci := 10) (v := .int t_place) (C := RX6) (T := TX6) (N := 6) hx hb hts iX6_place_X6 hown hK hP 0 rfl rfl 1 (by decide) (hts (.fieldLink RX6 9 "SkipArchive$Search" "place" "I") (List.mem_of_getElem? (i := 1) rfl)) (fun _ h9 => h9) rfl dX6_place_1 ?_
  obtain e0_4 := inj1 hF
  rw [← e0_4] at hQ0
  rw [hQ0]
  exact W.iret (v := t_place) hx hb hr (fun t ht hW => ⟨rfl, ht⟩) (fun _ h => nomatch h) dX6_place_4
def F_X6_step (fl : Nat) (t_place : Int32) (t_level : Int32) (t_gone : Int32) (t_fallen : Int32) (t_spanned : Int32) (t_ladder_size : Int32) (t_ladder_hidden : Int32) (t_ladder_keys : Nat → Int32) (t_ladder_towers : Nat → Int32) (p1 : Int32) : Option (Int32 × Int32 × Int32 × Int32 × Int32 × Int32) := bn (F_X3_nextOn fl t_ladder_size t_ladder_towers t_level t_place) fun r_12 => bn (F_X3_hasLowerKey fl t_ladder_size t_ladder_keys r_12 p1) fun r_22 => if r_22 = 0 then (if t_level = 0 then (some ((0 : Int32), t_place, t_level, t_gone, t_fallen, t_spanned)) else (bn (F_X3_usedUpTo fl t_ladder_hidden (t_level - (1 : Int32))) fun r_80 => some ((1 : Int32), t_place, r_80, t_gone, t_fallen + (1 : Int32), t_spanned))) else (some ((1 : Int32), r_12, t_level, t_gone + (1 : Int32), t_fallen, t_spanned + (r_12 - t_place)))
theorem iX6_step_X6 : ∀ w ∈ u_ws RX6 TX6 6, w ∈ wsX6_step := fun w h => List.mem_cons_of_mem _ (List.mem_append_left _ (List.mem_append_left _ (List.mem_append_right _ h)))
set_option maxHeartbeats 4000000 in
set_option maxRecDepth 100000 in
theorem c_X6_step (l : Launch) (D : va_G) (y : Nat → ClassId) (fl : Nat) (sz : Nat) (a_t : Nat) (a_t_ladder : Nat) (a_t_ladder_keys : Nat) (a_t_ladder_weights : Nat) (a_t_ladder_towers : Nat) (a_t_ladder_coin : Nat) (t_place : Int32) (t_level : Int32) (t_gone : Int32) (t_fallen : Int32) (t_spanned : Int32) (t_ladder_size : Int32) (t_ladder_hidden : Int32) (t_ladder_keys : Nat → Int32) (t_ladder_towers : Nat → Int32) (p1 : Int32) (r : Int32) (t_place' : Int32) (t_level' : Int32) (t_gone' : Int32) (t_fallen' : Int32) (t_spanned' : Int32) (hF : F_X6_step fl t_place t_level t_gone t_fallen t_spanned t_ladder_size t_ladder_hidden t_ladder_keys t_ladder_towers p1 = some (r, t_place', t_level', t_gone', t_fallen', t_spanned')) : Met l yX6_step wsX6_step (rmq 3 66) (wrP D y [(a_t, .inr (10, [.ref a_t_ladder, .int t_place, .int t_level, .int t_gone, .int t_fallen, .int t_spanned])), (a_t_ladder, .inr (7, [.ref a_t_ladder_keys, .ref a_t_ladder_weights, .ref a_t_ladder_towers, .ref a_t_ladder_coin, .int t_ladder_size, .int t_ladder_hidden])), (a_t_ladder_keys, .inl (y 0, 24, .inl t_ladder_keys)), (a_t_ladder_towers, .inl (y 0, 24, .inl t_ladder_towers))] sz [.ref a_t, .int p1]) (wQi D y r [(a_t, .inr (10, [.ref a_t_ladder, .int t_place', .int t_level', .int t_gone', .int t_fallen', .int t_spanned'])), (a_t_ladder, .inr (7, [.ref a_t_ladder_keys, .ref a_t_ladder_weights, .ref a_t_ladder_towers, .ref a_t_ladder_coin, .int t_ladder_size, .int t_ladder_hidden])), (a_t_ladder_keys, .inl (y 0, 24, .inl t_ladder_keys)), (a_t_ladder_towers, .inl (y 0, 24, .inl t_ladder_towers))] [(a_t, .inr (10, [.ref a_t_ladder, .int t_place, .int t_level, .int t_gone, .int t_fallen, .int t_spanned])), (a_t_ladder, .inr (7, [.ref a_t_ladder_keys, .ref a_t_ladder_weights, .ref a_t_ladder_towers, .ref a_t_ladder_coin, .int t_ladder_size, .int t_ladder_hidden])), (a_t_ladder_keys, .inl (y 0, 24, .inl t_ladder_keys)), (a_t_ladder_towers, .inl (y 0, 24, .inl t_ladder_towers))] sz) 0 0 (va_A [(a_t, .inr (10, [.ref a_t_ladder, .int t_place, .int t_level, .int t_gone, .int t_fallen, .int t_spanned])), (a_t_ladder, .inr (7, [.ref a_t_ladder_keys, .ref a_t_ladder_weights, .ref a_t_ladder_towers, .ref a_t_ladder_coin, .int t_ladder_size, .int t_ladder_hidden])), (a_t_ladder_keys, .inl (y 0, 24, .inl t_ladder_keys)), (a_t_ladder_towers, .inl (y 0, 24, .inl t_ladder_towers))] sz) := by
  refine Met.ofW (cc := cX6_step) (maxL := 3) (ret := (some .boolean)) (by decide) rfl ?_
  intro p e s m args below meth c s₁ B hml hv
  obtain ⟨hav, hsz, hP, hK, hD0⟩ := hv
  have hx := B.exec
  have hb := B.bytes
  have hr := B.returns
  have hts := atoms_spec (ws := wsX6_step) B.pre
  have hown : s.vm.findClass RX6 = some m.cls := findClass_of_methodNamed B.named
  have hlocks := B.notSynchronized
  subst hsz
  have hD := hD0.self (sz := s.heap.size)
  obtain ⟨A, hAe⟩ : ∃ A : Nat → Prop, va_A [(a_t, .inr (10, [.ref a_t_ladder, .int t_place, .int t_level, .int t_gone, .int t_fallen, .int t_spanned])), (a_t_ladder, .inr (7, [.ref a_t_ladder_keys, .ref a_t_ladder_weights, .ref a_t_ladder_towers, .ref a_t_ladder_coin, .int t_ladder_size, .int t_ladder_hidden])), (a_t_ladder_keys, .inl (y 0, 24, .inl t_ladder_keys)), (a_t_ladder_towers, .inl (y 0, 24, .inl t_ladder_towers))] s.heap.size = A := ⟨_, rfl⟩
  rw [hAe] at hD
  have hA : ∀ q, s.heap.size ≤ q → A q := fun q h => by rw [← hAe]; exact Or.inr h
  have hS : va_S A s.heap s.heap [] := va_S.rf
  refine W_q (R1 := (rmq 3 66)) rfl (fun Q0 hQ0 => ?_)
  unfold F_X6_step at hF
  refine W_entry hav (Nat.le_of_ble_eq_true rfl) (fun ls hl => ?_)
  have hl : lv_has ls 3 [(0, .ref a_t), (1, .int p1)] := hl
  refine lv_aload_n hx hb dX6_step_0 rfl (lv_at hl 0 rfl) ?_
  refine va_get (D := D) (ci := 10) (v := .ref a_t_ladder) (C := RX6) (T := TX6) (N := 6) hx hb hts iX6_step_X6 hown hK hP 0 rfl rfl 0 (by decide) (hts (.fieldLink RX6 27 "SkipArchive$Search" "ladder" "LSkipArchive$Ladder;") (List.mem_of_getElem? (i := 1) rfl)) (fun _ h9 => h9) rfl dX6_step_1 ?_
  refine lv_aload_n hx hb dX6_step_4 rfl (lv_at hl 0 rfl) ?_
  refine va_get (D := D) (ci := 10) (v := .int t_level) (C := RX6) (T := TX6) (N := 6) hx hb hts iX6_step_X6 hown hK hP 0 rfl rfl 2 (by decide) (hts (.fieldLink RX6 15 "SkipArchive$Search" "level" "I") (List.mem_of_getElem? (i := 2) rfl)) (fun _ h9 => h9) rfl dX6_step_5 ?_
  refine lv_aload_n hx hb dX6_step_8 rfl (lv_at hl 0 rfl) ?_
  refine va_get (D := D) (ci := 10) (v := .int t_place) (C := RX6) (T := TX6) (N := 6) hx hb hts iX6_step_X6 hown hK hP 0 rfl rfl 1 (by decide) (hts (.fieldLink RX6 9 "SkipArchive$Search" "place" "I") (List.mem_of_getElem? (i := 3) rfl)) (fun _ h9 => h9) rfl dX6_step_9 ?_
  obtain ⟨r_12, hq_12, hF⟩ := bn_i hF
  refine cr_V (As := [.int t_level, .int t_place]) (rest := []) ⟨hx, hb, hml, hown, hts⟩ (c_X3_nextOn l D y fl a_t_ladder a_t_ladder_keys a_t_ladder_weights a_t_ladder_towers a_t_ladder_coin t_ladder_size t_ladder_hidden t_ladder_towers t_level t_place r_12 hq_12) (cwV 2 hts gX6_step_X3_nextOn rfl rfl rfl (by decide +kernel) ⟨Nat.le_of_ble_eq_true rfl, Nat.le_of_ble_eq_true rfl⟩) hK hP [1, 3] rfl rfl rfl rfl hl.1 rfl (Nat.le_of_ble_eq_true rfl) dX6_step_12 ⟨Nat.le_of_ble_eq_true rfl, Nat.le_of_ble_eq_true rfl⟩ ?_
  refine lv_istore_n (lv' := [(2, .int r_12), (0, .ref a_t), (1, .int p1)]) hx hb dX6_step_15 rfl hl (by decide) rfl (fun ls hl => ?_)
  refine lv_aload_n hx hb dX6_step_16 rfl (lv_at hl 1 rfl) ?_
  refine va_get (D := D) (ci := 10) (v := .ref a_t_ladder) (C := RX6) (T := TX6) (N := 6) hx hb hts iX6_step_X6 hown hK hP 0 rfl rfl 0 (by decide) (hts (.fieldLink RX6 27 "SkipArchive$Search" "ladder" "LSkipArchive$Ladder;") (List.mem_of_getElem? (i := 1) rfl)) (fun _ h9 => h9) rfl dX6_step_17 ?_
  refine lv_iload_n hx hb dX6_step_20 rfl (lv_at hl 0 rfl) ?_
  refine lv_iload_n hx hb dX6_step_21 rfl (lv_at hl 2 rfl) ?_
  obtain ⟨r_22, hq_22, hF⟩ := bn_i hF
  refine cr_V (As := [.int r_12, .int p1]) (rest := []) ⟨hx, hb, hml, hown, hts⟩ (c_X3_hasLowerKey l D y fl a_t_ladder a_t_ladder_keys a_t_ladder_weights a_t_ladder_towers a_t_ladder_coin t_ladder_size t_ladder_hidden t_ladder_keys r_12 p1 r_22 hq_22) (cwV 2 hts gX6_step_X3_hasLowerKey rfl rfl rfl (by decide +kernel) ⟨Nat.le_of_ble_eq_true rfl, Nat.le_of_ble_eq_true rfl⟩) hK hP [1, 2] rfl rfl rfl rfl hl.1 rfl (Nat.le_of_ble_eq_true rfl) dX6_step_22 ⟨Nat.le_of_ble_eq_true rfl, Nat.le_of_ble_eq_true rfl⟩ ?_
  refine lv_if_eq (tgt := 60) hx hb dX6_step_25 (by decide) (fun c_25 => ?_) (fun c_25 => ?_)
  · have hF := ift hF c_25
    refine lv_aload_n hx hb dX6_step_60 rfl (lv_at hl 1 rfl) ?_
    refine va_get (D := D) (ci := 10) (v := .int t_level) (C := RX6) (T := TX6) (N := 6) hx hb hts iX6_step_X6 hown hK hP 0 rfl rfl 2 (by decide) (hts (.fieldLink RX6 15 "SkipArchive$Search" "level" "I") (List.mem_of_getElem? (i := 2) rfl)) (fun _ h9 => h9) rfl dX6_step_61 ?_
    refine lv_if_ne (tgt := 69) hx hb dX6_step_64 (by decide) (fun c_64 => ?_) (fun c_64 => ?_)
    · have hF := iff_ hF c_64
      refine lv_aload_n hx hb dX6_step_69 rfl (lv_at hl 1 rfl) ?_
      refine lv_aload_n hx hb dX6_step_70 rfl (lv_at hl 1 rfl) ?_
      refine va_get (D := D) (ci := 10) (v := .ref a_t_ladder) (C := RX6) (T := TX6) (N := 6) hx hb hts iX6_step_X6 hown hK hP 0 rfl rfl 0 (by decide) (hts (.fieldLink RX6 27 "SkipArchive$Search" "ladder" "LSkipArchive$Ladder;") (List.mem_of_getElem? (i := 1) rfl)) (fun _ h9 => h9) rfl dX6_step_71 ?_
      refine lv_aload_n hx hb dX6_step_74 rfl (lv_at hl 1 rfl) ?_
      refine va_get (D := D) (ci := 10) (v := .int t_level) (C := RX6) (T := TX6) (N := 6) hx hb hts iX6_step_X6 hown hK hP 0 rfl rfl 2 (by decide) (hts (.fieldLink RX6 15 "SkipArchive$Search" "level" "I") (List.mem_of_getElem? (i := 2) rfl)) (fun _ h9 => h9) rfl dX6_step_75 ?_
      refine lv_iconst (v := 1) hx hb dX6_step_78 (by decide) ?_
      refine lv_isub hx hb dX6_step_79 ?_
      obtain ⟨r_80, hq_80, hF⟩ := bn_i hF
      refine cr_V (As := [.int (t_level - (1 : Int32))]) (rest := [.ref a_t]) ⟨hx, hb, hml, hown, hts⟩ (c_X3_usedUpTo l D y fl a_t_ladder a_t_ladder_keys a_t_ladder_weights a_t_ladder_towers a_t_ladder_coin t_ladder_size t_ladder_hidden (t_level - (1 : Int32)) r_80 hq_80) (cwV 1 hts gX6_step_X3_usedUpTo rfl rfl rfl (by decide +kernel) ⟨Nat.le_of_ble_eq_true rfl, Nat.le_of_ble_eq_true rfl⟩) hK hP [1] rfl rfl rfl rfl hl.1 rfl (Nat.le_of_ble_eq_true rfl) dX6_step_80 ⟨Nat.le_of_ble_eq_true rfl, Nat.le_of_ble_eq_true rfl⟩ ?_
      refine va_put (D := D) (ci := 10) (v := .int r_80) (ty := .int) (C := RX6) (T := TX6) (N := 6) hx hb hts iX6_step_X6 tyX6 tyX6_ok nmX6 hown hK hP hD hS 0 rfl rfl 2 (by decide) (hts (.fieldLink RX6 15 "SkipArchive$Search" "level" "I") (List.mem_of_getElem? (i := 2) rfl)) (fun _ h9 => h9) rfl (by decide +kernel) rfl rfl (Nat.le_of_ble_eq_true rfl) dX6_step_83 (fun H locs hP hD hS => ?_)
      have hP : va_P D vwCl [(a_t, .inr (10, [.ref a_t_ladder, .int t_place, .int r_80, .int t_gone, .int t_fallen, .int t_spanned])), (a_t_ladder, .inr (7, [.ref a_t_ladder_keys, .ref a_t_ladder_weights, .ref a_t_ladder_towers, .ref a_t_ladder_coin, .int t_ladder_size, .int t_ladder_hidden])), (a_t_ladder_keys, .inl (y 0, 24, .inl t_ladder_keys)), (a_t_ladder_towers, .inl (y 0, 24, .inl t_ladder_towers))] H := hP
      have hD : va_D A [(a_t, .inr (10, [.ref a_t_ladder, .int t_place, .int r_80, .int t_gone, .int t_fallen, .int t_spanned])), (a_t_ladder, .inr (7, [.ref a_t_ladder_keys, .ref a_t_ladder_weights, .ref a_t_ladder_towers, .ref a_t_ladder_coin, .int t_ladder_size, .int t_ladder_hidden])), (a_t_ladder_keys, .inl (y 0, 24, .inl t_ladder_keys)), (a_t_ladder_towers, .inl (y 0, 24, .inl t_ladder_towers))] := hD
      refine lv_aload_n hx hb dX6_step_86 rfl (lv_at hl 1 rfl) ?_
      refine lv_dup hx hb dX6_step_87 rfl ?_
      refine va_get (D := D) (ci := 10) (v := .int t_fallen) (C := RX6) (T := TX6) (N := 6) hx hb hts iX6_step_X6 hown hK hP 0 rfl rfl 4 (by decide) (hts (.fieldLink RX6 21 "SkipArchive$Search" "fallen" "I") (List.mem_of_getElem? (i := 6) rfl)) (fun _ h9 => h9) rfl dX6_step_88 ?_
      refine lv_iconst (v := 1) hx hb dX6_step_91 (by decide) ?_
      refine lv_iadd hx hb dX6_step_92 ?_
      refine va_put (D := D) (ci := 10) (v := .int (t_fallen + (1 : Int32))) (ty := .int) (C := RX6) (T := TX6) (N := 6) hx hb hts iX6_step_X6 tyX6 tyX6_ok nmX6 hown hK hP hD hS 0 rfl rfl 4 (by decide) (hts (.fieldLink RX6 21 "SkipArchive$Search" "fallen" "I") (List.mem_of_getElem? (i := 6) rfl)) (fun _ h9 => h9) rfl (by decide +kernel) rfl rfl (Nat.le_of_ble_eq_true rfl) dX6_step_93 (fun H locs hP hD hS => ?_)
      have hP : va_P D vwCl [(a_t, .inr (10, [.ref a_t_ladder, .int t_place, .int r_80, .int t_gone, .int (t_fallen + (1 : Int32)), .int t_spanned])), (a_t_ladder, .inr (7, [.ref a_t_ladder_keys, .ref a_t_ladder_weights, .ref a_t_ladder_towers, .ref a_t_ladder_coin, .int t_ladder_size, .int t_ladder_hidden])), (a_t_ladder_keys, .inl (y 0, 24, .inl t_ladder_keys)), (a_t_ladder_towers, .inl (y 0, 24, .inl t_ladder_towers))] H := hP
      have hD : va_D A [(a_t, .inr (10, [.ref a_t_ladder, .int t_place, .int r_80, .int t_gone, .int (t_fallen + (1 : Int32)), .int t_spanned])), (a_t_ladder, .inr (7, [.ref a_t_ladder_keys, .ref a_t_ladder_weights, .ref a_t_ladder_towers, .ref a_t_ladder_coin, .int t_ladder_size, .int t_ladder_hidden])), (a_t_ladder_keys, .inl (y 0, 24, .inl t_ladder_keys)), (a_t_ladder_towers, .inl (y 0, 24, .inl t_ladder_towers))] := hD
      refine lv_iconst (v := 1) hx hb dX6_step_96 (by decide) ?_
      obtain ⟨e0_97, e1_97, e2_97, e3_97, e4_97, e5_97⟩ := inj6 hF
      rw [← e0_97, ← e1_97, ← e2_97, ← e3_97, ← e4_97, ← e5_97] at hQ0
      rw [hQ0]
      exact ret_z hx hb hr (by decide +kernel) hlocks hAe hK hP hD hS [0, 1, 2, 3] rfl rfl dX6_step_97
    · have hF := ift hF c_64
      refine lv_iconst (v := 0) hx hb dX6_step_67 (by decide) ?_
      obtain ⟨e0_68, e1_68, e2_68, e3_68, e4_68, e5_68⟩ := inj6 hF
      rw [← e0_68, ← e1_68, ← e2_68, ← e3_68, ← e4_68, ← e5_68] at hQ0
      rw [hQ0]
      exact ret_z hx hb hr (by decide +kernel) hlocks hAe hK hP hD hS [0, 1, 2, 3] rfl rfl dX6_step_68
  · have hF := iff_ hF c_25
    refine lv_aload_n hx hb dX6_step_28 rfl (lv_at hl 1 rfl) ?_
    refine lv_dup hx hb dX6_step_29 rfl ?_
    refine va_get (D := D) (ci := 10) (v := .int t_spanned) (C := RX6) (T := TX6) (N := 6) hx hb hts iX6_step_X6 hown hK hP 0 rfl rfl 5 (by decide) (hts (.fieldLink RX6 24 "SkipArchive$Search" "spanned" "I") (List.mem_of_getElem? (i := 4) rfl)) (fun _ h9 => h9) rfl dX6_step_30 ?_
    refine lv_iload_n hx hb dX6_step_33 rfl (lv_at hl 0 rfl) ?_
    refine lv_aload_n hx hb dX6_step_34 rfl (lv_at hl 1 rfl) ?_
    refine va_get (D := D) (ci := 10) (v := .int t_place) (C := RX6) (T := TX6) (N := 6) hx hb hts iX6_step_X6 hown hK hP 0 rfl rfl 1 (by decide) (hts (.fieldLink RX6 9 "SkipArchive$Search" "place" "I") (List.mem_of_getElem? (i := 3) rfl)) (fun _ h9 => h9) rfl dX6_step_35 ?_
    refine lv_isub hx hb dX6_step_38 ?_
    refine lv_iadd hx hb dX6_step_39 ?_
    refine va_put (D := D) (ci := 10) (v := .int (t_spanned + (r_12 - t_place))) (ty := .int) (C := RX6) (T := TX6) (N := 6) hx hb hts iX6_step_X6 tyX6 tyX6_ok nmX6 hown hK hP hD hS 0 rfl rfl 5 (by decide) (hts (.fieldLink RX6 24 "SkipArchive$Search" "spanned" "I") (List.mem_of_getElem? (i := 4) rfl)) (fun _ h9 => h9) rfl (by decide +kernel) rfl rfl (Nat.le_of_ble_eq_true rfl) dX6_step_40 (fun H locs hP hD hS => ?_)
    have hP : va_P D vwCl [(a_t, .inr (10, [.ref a_t_ladder, .int t_place, .int t_level, .int t_gone, .int t_fallen, .int (t_spanned + (r_12 - t_place))])), (a_t_ladder, .inr (7, [.ref a_t_ladder_keys, .ref a_t_ladder_weights, .ref a_t_ladder_towers, .ref a_t_ladder_coin, .int t_ladder_size, .int t_ladder_hidden])), (a_t_ladder_keys, .inl (y 0, 24, .inl t_ladder_keys)), (a_t_ladder_towers, .inl (y 0, 24, .inl t_ladder_towers))] H := hP
    have hD : va_D A [(a_t, .inr (10, [.ref a_t_ladder, .int t_place, .int t_level, .int t_gone, .int t_fallen, .int (t_spanned + (r_12 - t_place))])), (a_t_ladder, .inr (7, [.ref a_t_ladder_keys, .ref a_t_ladder_weights, .ref a_t_ladder_towers, .ref a_t_ladder_coin, .int t_ladder_size, .int t_ladder_hidden])), (a_t_ladder_keys, .inl (y 0, 24, .inl t_ladder_keys)), (a_t_ladder_towers, .inl (y 0, 24, .inl t_ladder_towers))] := hD
    refine lv_aload_n hx hb dX6_step_43 rfl (lv_at hl 1 rfl) ?_
    refine lv_iload_n hx hb dX6_step_44 rfl (lv_at hl 0 rfl) ?_
    refine va_put (D := D) (ci := 10) (v := .int r_12) (ty := .int) (C := RX6) (T := TX6) (N := 6) hx hb hts iX6_step_X6 tyX6 tyX6_ok nmX6 hown hK hP hD hS 0 rfl rfl 1 (by decide) (hts (.fieldLink RX6 9 "SkipArchive$Search" "place" "I") (List.mem_of_getElem? (i := 3) rfl)) (fun _ h9 => h9) rfl (by decide +kernel) rfl rfl (Nat.le_of_ble_eq_true rfl) dX6_step_45 (fun H locs hP hD hS => ?_)
    have hP : va_P D vwCl [(a_t, .inr (10, [.ref a_t_ladder, .int r_12, .int t_level, .int t_gone, .int t_fallen, .int (t_spanned + (r_12 - t_place))])), (a_t_ladder, .inr (7, [.ref a_t_ladder_keys, .ref a_t_ladder_weights, .ref a_t_ladder_towers, .ref a_t_ladder_coin, .int t_ladder_size, .int t_ladder_hidden])), (a_t_ladder_keys, .inl (y 0, 24, .inl t_ladder_keys)), (a_t_ladder_towers, .inl (y 0, 24, .inl t_ladder_towers))] H := hP
    have hD : va_D A [(a_t, .inr (10, [.ref a_t_ladder, .int r_12, .int t_level, .int t_gone, .int t_fallen, .int (t_spanned + (r_12 - t_place))])), (a_t_ladder, .inr (7, [.ref a_t_ladder_keys, .ref a_t_ladder_weights, .ref a_t_ladder_towers, .ref a_t_ladder_coin, .int t_ladder_size, .int t_ladder_hidden])), (a_t_ladder_keys, .inl (y 0, 24, .inl t_ladder_keys)), (a_t_ladder_towers, .inl (y 0, 24, .inl t_ladder_towers))] := hD
    refine lv_aload_n hx hb dX6_step_48 rfl (lv_at hl 1 rfl) ?_
    refine lv_dup hx hb dX6_step_49 rfl ?_
    refine va_get (D := D) (ci := 10) (v := .int t_gone) (C := RX6) (T := TX6) (N := 6) hx hb hts iX6_step_X6 hown hK hP 0 rfl rfl 3 (by decide) (hts (.fieldLink RX6 18 "SkipArchive$Search" "gone" "I") (List.mem_of_getElem? (i := 5) rfl)) (fun _ h9 => h9) rfl dX6_step_50 ?_
    refine lv_iconst (v := 1) hx hb dX6_step_53 (by decide) ?_
    refine lv_iadd hx hb dX6_step_54 ?_
    refine va_put (D := D) (ci := 10) (v := .int (t_gone + (1 : Int32))) (ty := .int) (C := RX6) (T := TX6) (N := 6) hx hb hts iX6_step_X6 tyX6 tyX6_ok nmX6 hown hK hP hD hS 0 rfl rfl 3 (by decide) (hts (.fieldLink RX6 18 "SkipArchive$Search" "gone" "I") (List.mem_of_getElem? (i := 5) rfl)) (fun _ h9 => h9) rfl (by decide +kernel) rfl rfl (Nat.le_of_ble_eq_true rfl) dX6_step_55 (fun H locs hP hD hS => ?_)
    have hP : va_P D vwCl [(a_t, .inr (10, [.ref a_t_ladder, .int r_12, .int t_level, .int (t_gone + (1 : Int32)), .int t_fallen, .int (t_spanned + (r_12 - t_place))])), (a_t_ladder, .inr (7, [.ref a_t_ladder_keys, .ref a_t_ladder_weights, .ref a_t_ladder_towers, .ref a_t_ladder_coin, .int t_ladder_size, .int t_ladder_hidden])), (a_t_ladder_keys, .inl (y 0, 24, .inl t_ladder_keys)), (a_t_ladder_towers, .inl (y 0, 24, .inl t_ladder_towers))] H := hP
    have hD : va_D A [(a_t, .inr (10, [.ref a_t_ladder, .int r_12, .int t_level, .int (t_gone + (1 : Int32)), .int t_fallen, .int (t_spanned + (r_12 - t_place))])), (a_t_ladder, .inr (7, [.ref a_t_ladder_keys, .ref a_t_ladder_weights, .ref a_t_ladder_towers, .ref a_t_ladder_coin, .int t_ladder_size, .int t_ladder_hidden])), (a_t_ladder_keys, .inl (y 0, 24, .inl t_ladder_keys)), (a_t_ladder_towers, .inl (y 0, 24, .inl t_ladder_towers))] := hD
    refine lv_iconst (v := 1) hx hb dX6_step_58 (by decide) ?_
    obtain ⟨e0_59, e1_59, e2_59, e3_59, e4_59, e5_59⟩ := inj6 hF
    rw [← e0_59, ← e1_59, ← e2_59, ← e3_59, ← e4_59, ← e5_59] at hQ0
    rw [hQ0]
    exact ret_z hx hb hr (by decide +kernel) hlocks hAe hK hP hD hS [0, 1, 2, 3] rfl rfl dX6_step_59
def F_X6_reaches_36 (fl : Nat) (t_ladder_size : Int32) (t_ladder_hidden : Int32) (t_ladder_keys : Nat → Int32) (t_ladder_towers : Nat → Int32) : Nat → Int32 → Int32 → Int32 → Int32 → Int32 → Int32 → Int32 → Int32 → Int32 → Option (Int32 × Int32 × Int32 × Int32 × Int32 × Int32)
  | 0, _, _, _, _, _, _, _, _, _ => none
  | n + 1, t_place_w, t_level_w, t_gone_w, t_fallen_w, t_spanned_w, x1, x2, x3, x4 => if (1000 : Int32) ≤ x4 then (if t_gone_w < x2 then (some ((0 : Int32), t_place_w, t_level_w, t_gone_w, t_fallen_w, t_spanned_w)) else (some ((1 : Int32), t_place_w, t_level_w, t_gone_w, t_fallen_w, t_spanned_w))) else (if x3 = 0 then (if t_gone_w < x2 then (some ((0 : Int32), t_place_w, t_level_w, t_gone_w, t_fallen_w, t_spanned_w)) else (some ((1 : Int32), t_place_w, t_level_w, t_gone_w, t_fallen_w, t_spanned_w))) else (if x2 ≤ t_gone_w then (if t_gone_w < x2 then (some ((0 : Int32), t_place_w, t_level_w, t_gone_w, t_fallen_w, t_spanned_w)) else (some ((1 : Int32), t_place_w, t_level_w, t_gone_w, t_fallen_w, t_spanned_w))) else (bn6 (F_X6_step fl t_place_w t_level_w t_gone_w t_fallen_w t_spanned_w t_ladder_size t_ladder_hidden t_ladder_keys t_ladder_towers x1) fun r_58 t_place_58 t_level_58 t_gone_58 t_fallen_58 t_spanned_58 => F_X6_reaches_36 fl t_ladder_size t_ladder_hidden t_ladder_keys t_ladder_towers n t_place_58 t_level_58 t_gone_58 t_fallen_58 t_spanned_58 x1 x2 r_58 (x4 + (1 : Int32)))))
def F_X6_reaches (fl : Nat) (t_place : Int32) (t_level : Int32) (t_gone : Int32) (t_fallen : Int32) (t_spanned : Int32) (t_ladder_size : Int32) (t_ladder_hidden : Int32) (t_ladder_keys : Nat → Int32) (t_ladder_towers : Nat → Int32) (p1 : Int32) (p2 : Int32) : Option (Int32 × Int32 × Int32 × Int32 × Int32 × Int32) := bn (F_X3_beginning fl t_ladder_size t_ladder_hidden t_ladder_towers) fun r_10 => F_X6_reaches_36 fl t_ladder_size t_ladder_hidden t_ladder_keys t_ladder_towers fl (-1 : Int32) r_10 (0 : Int32) (0 : Int32) (0 : Int32) p1 p2 (1 : Int32) (0 : Int32)
theorem iX6_reaches_X6 : ∀ w ∈ u_ws RX6 TX6 6, w ∈ wsX6_reaches := fun w h => List.mem_cons_of_mem _ (List.mem_append_left _ (List.mem_append_left _ (List.mem_append_right _ h)))
set_option maxHeartbeats 4000000 in
set_option maxRecDepth 100000 in
theorem c_X6_reaches (l : Launch) (D : va_G) (y : Nat → ClassId) (fl : Nat) (sz : Nat) (a_t : Nat) (a_t_ladder : Nat) (a_t_ladder_keys : Nat) (a_t_ladder_weights : Nat) (a_t_ladder_towers : Nat) (a_t_ladder_coin : Nat) (t_place : Int32) (t_level : Int32) (t_gone : Int32) (t_fallen : Int32) (t_spanned : Int32) (t_ladder_size : Int32) (t_ladder_hidden : Int32) (t_ladder_keys : Nat → Int32) (t_ladder_towers : Nat → Int32) (p1 : Int32) (p2 : Int32) (r : Int32) (t_place' : Int32) (t_level' : Int32) (t_gone' : Int32) (t_fallen' : Int32) (t_spanned' : Int32) (hF : F_X6_reaches fl t_place t_level t_gone t_fallen t_spanned t_ladder_size t_ladder_hidden t_ladder_keys t_ladder_towers p1 p2 = some (r, t_place', t_level', t_gone', t_fallen', t_spanned')) : Met l yX6_reaches wsX6_reaches (rmq 4 88) (wrP D y [(a_t, .inr (10, [.ref a_t_ladder, .int t_place, .int t_level, .int t_gone, .int t_fallen, .int t_spanned])), (a_t_ladder, .inr (7, [.ref a_t_ladder_keys, .ref a_t_ladder_weights, .ref a_t_ladder_towers, .ref a_t_ladder_coin, .int t_ladder_size, .int t_ladder_hidden])), (a_t_ladder_keys, .inl (y 0, 24, .inl t_ladder_keys)), (a_t_ladder_towers, .inl (y 0, 24, .inl t_ladder_towers))] sz [.ref a_t, .int p1, .int p2]) (wQi D y r [(a_t, .inr (10, [.ref a_t_ladder, .int t_place', .int t_level', .int t_gone', .int t_fallen', .int t_spanned'])), (a_t_ladder, .inr (7, [.ref a_t_ladder_keys, .ref a_t_ladder_weights, .ref a_t_ladder_towers, .ref a_t_ladder_coin, .int t_ladder_size, .int t_ladder_hidden])), (a_t_ladder_keys, .inl (y 0, 24, .inl t_ladder_keys)), (a_t_ladder_towers, .inl (y 0, 24, .inl t_ladder_towers))] [(a_t, .inr (10, [.ref a_t_ladder, .int t_place, .int t_level, .int t_gone, .int t_fallen, .int t_spanned])), (a_t_ladder, .inr (7, [.ref a_t_ladder_keys, .ref a_t_ladder_weights, .ref a_t_ladder_towers, .ref a_t_ladder_coin, .int t_ladder_size, .int t_ladder_hidden])), (a_t_ladder_keys, .inl (y 0, 24, .inl t_ladder_keys)), (a_t_ladder_towers, .inl (y 0, 24, .inl t_ladder_towers))] sz) 0 0 (va_A [(a_t, .inr (10, [.ref a_t_ladder, .int t_place, .int t_level, .int t_gone, .int t_fallen, .int t_spanned])), (a_t_ladder, .inr (7, [.ref a_t_ladder_keys, .ref a_t_ladder_weights, .ref a_t_ladder_towers, .ref a_t_ladder_coin, .int t_ladder_size, .int t_ladder_hidden])), (a_t_ladder_keys, .inl (y 0, 24, .inl t_ladder_keys)), (a_t_ladder_towers, .inl (y 0, 24, .inl t_ladder_towers))] sz) := by
  refine Met.ofW (cc := cX6_reaches) (maxL := 5) (ret := (some .boolean)) (by decide) rfl ?_
  intro p e s m args below meth c s₁ B hml hv
  obtain ⟨hav, hsz, hP, hK, hD0⟩ := hv
  have hx := B.exec
  have hb := B.bytes
  have hr := B.returns
  have hts := atoms_spec (ws := wsX6_reaches) B.pre
  have hown : s.vm.findClass RX6 = some m.cls := findClass_of_methodNamed B.named
  have hlocks := B.notSynchronized
  subst hsz
  have hD := hD0.self (sz := s.heap.size)
  obtain ⟨A, hAe⟩ : ∃ A : Nat → Prop, va_A [(a_t, .inr (10, [.ref a_t_ladder, .int t_place, .int t_level, .int t_gone, .int t_fallen, .int t_spanned])), (a_t_ladder, .inr (7, [.ref a_t_ladder_keys, .ref a_t_ladder_weights, .ref a_t_ladder_towers, .ref a_t_ladder_coin, .int t_ladder_size, .int t_ladder_hidden])), (a_t_ladder_keys, .inl (y 0, 24, .inl t_ladder_keys)), (a_t_ladder_towers, .inl (y 0, 24, .inl t_ladder_towers))] s.heap.size = A := ⟨_, rfl⟩
  rw [hAe] at hD
  have hA : ∀ q, s.heap.size ≤ q → A q := fun q h => by rw [← hAe]; exact Or.inr h
  have hS : va_S A s.heap s.heap [] := va_S.rf
  refine W_q (R1 := (rmq 4 88)) rfl (fun Q0 hQ0 => ?_)
  unfold F_X6_reaches at hF
  have k_36 : ∀ (n : Nat) (t_place_w : Int32) (t_level_w : Int32) (t_gone_w : Int32) (t_fallen_w : Int32) (t_spanned_w : Int32) (x1 : Int32) (x2 : Int32) (x3 : Int32) (x4 : Int32), F_X6_reaches_36 fl t_ladder_size t_ladder_hidden t_ladder_keys t_ladder_towers n t_place_w t_level_w t_gone_w t_fallen_w t_spanned_w x1 x2 x3 x4 = some (r, t_place', t_level', t_gone', t_fallen', t_spanned') → ∀ (H : Heap) (locs : List Loc), va_P D vwCl [(a_t, .inr (10, [.ref a_t_ladder, .int t_place_w, .int t_level_w, .int t_gone_w, .int t_fallen_w, .int t_spanned_w])), (a_t_ladder, .inr (7, [.ref a_t_ladder_keys, .ref a_t_ladder_weights, .ref a_t_ladder_towers, .ref a_t_ladder_coin, .int t_ladder_size, .int t_ladder_hidden])), (a_t_ladder_keys, .inl (y 0, 24, .inl t_ladder_keys)), (a_t_ladder_towers, .inl (y 0, 24, .inl t_ladder_towers))] H → va_D A [(a_t, .inr (10, [.ref a_t_ladder, .int t_place_w, .int t_level_w, .int t_gone_w, .int t_fallen_w, .int t_spanned_w])), (a_t_ladder, .inr (7, [.ref a_t_ladder_keys, .ref a_t_ladder_weights, .ref a_t_ladder_towers, .ref a_t_ladder_coin, .int t_ladder_size, .int t_ladder_hidden])), (a_t_ladder_keys, .inl (y 0, 24, .inl t_ladder_keys)), (a_t_ladder_towers, .inl (y 0, 24, .inl t_ladder_towers))] → va_S A s.heap H locs → ∀ (ls : Array Slot), lv_has ls 5 [(0, .ref a_t), (1, .int x1), (2, .int x2), (3, .int x3), (4, .int x4)] → W p l e (rmq 4 88) s m args below meth c H locs 0 0 Q0 (F0 m 36 ls []) := by
    intro n
    induction n with
    | zero => intro t_place_w t_level_w t_gone_w t_fallen_w t_spanned_w x1 x2 x3 x4 hF; rw [F_X6_reaches_36] at hF; cases hF
    | succ n ih =>
      intro t_place_w t_level_w t_gone_w t_fallen_w t_spanned_w x1 x2 x3 x4 hF H locs hP hD hS ls hl
      rw [F_X6_reaches_36] at hF
      refine lv_iload hx hb dX6_reaches_36 (lv_at hl 4 rfl) ?_
      refine lv_sipush (v := 1000) hx hb dX6_reaches_38 (by decide) ?_
      refine lv_icmp_ge (tgt := 68) hx hb dX6_reaches_41 (by decide) (fun c_41 => ?_) (fun c_41 => ?_)
      · have hF := ift hF c_41
        refine lv_aload_n hx hb dX6_reaches_68 rfl (lv_at hl 0 rfl) ?_
        refine va_get (D := D) (ci := 10) (v := .int t_gone_w) (C := RX6) (T := TX6) (N := 6) hx hb hts iX6_reaches_X6 hown hK hP 0 rfl rfl 3 (by decide) (hts (.fieldLink RX6 18 "SkipArchive$Search" "gone" "I") (List.mem_of_getElem? (i := 4) rfl)) (fun _ h9 => h9) rfl dX6_reaches_69 ?_
        refine lv_iload_n hx hb dX6_reaches_72 rfl (lv_at hl 2 rfl) ?_
        refine lv_icmp_lt (tgt := 80) hx hb dX6_reaches_73 (by decide) (fun c_73 => ?_) (fun c_73 => ?_)
        · have hF := ift hF c_73
          refine lv_iconst (v := 0) hx hb dX6_reaches_80 (by decide) ?_
          obtain ⟨e0_81, e1_81, e2_81, e3_81, e4_81, e5_81⟩ := inj6 hF
          rw [← e0_81, ← e1_81, ← e2_81, ← e3_81, ← e4_81, ← e5_81] at hQ0
          rw [hQ0]
          exact ret_z hx hb hr (by decide +kernel) hlocks hAe hK hP hD hS [0, 1, 2, 3] rfl rfl dX6_reaches_81
        · have hF := iff_ hF c_73
          refine lv_iconst (v := 1) hx hb dX6_reaches_76 (by decide) ?_
          refine lv_goto (tgt := 81) hx hb dX6_reaches_77 (by decide) ?_
          obtain ⟨e0_81, e1_81, e2_81, e3_81, e4_81, e5_81⟩ := inj6 hF
          rw [← e0_81, ← e1_81, ← e2_81, ← e3_81, ← e4_81, ← e5_81] at hQ0
          rw [hQ0]
          exact ret_z hx hb hr (by decide +kernel) hlocks hAe hK hP hD hS [0, 1, 2, 3] rfl rfl dX6_reaches_81
      · have hF := iff_ hF c_41
        refine lv_iload_n hx hb dX6_reaches_44 rfl (lv_at hl 3 rfl) ?_
        refine lv_if_eq (tgt := 68) hx hb dX6_reaches_45 (by decide) (fun c_45 => ?_) (fun c_45 => ?_)
        · have hF := ift hF c_45
          refine lv_aload_n hx hb dX6_reaches_68 rfl (lv_at hl 0 rfl) ?_
          refine va_get (D := D) (ci := 10) (v := .int t_gone_w) (C := RX6) (T := TX6) (N := 6) hx hb hts iX6_reaches_X6 hown hK hP 0 rfl rfl 3 (by decide) (hts (.fieldLink RX6 18 "SkipArchive$Search" "gone" "I") (List.mem_of_getElem? (i := 4) rfl)) (fun _ h9 => h9) rfl dX6_reaches_69 ?_
          refine lv_iload_n hx hb dX6_reaches_72 rfl (lv_at hl 2 rfl) ?_
          refine lv_icmp_lt (tgt := 80) hx hb dX6_reaches_73 (by decide) (fun c_73b => ?_) (fun c_73b => ?_)
          · have hF := ift hF c_73b
            refine lv_iconst (v := 0) hx hb dX6_reaches_80 (by decide) ?_
            obtain ⟨e0_81, e1_81, e2_81, e3_81, e4_81, e5_81⟩ := inj6 hF
            rw [← e0_81, ← e1_81, ← e2_81, ← e3_81, ← e4_81, ← e5_81] at hQ0
            rw [hQ0]
            exact ret_z hx hb hr (by decide +kernel) hlocks hAe hK hP hD hS [0, 1, 2, 3] rfl rfl dX6_reaches_81
          · have hF := iff_ hF c_73b
            refine lv_iconst (v := 1) hx hb dX6_reaches_76 (by decide) ?_
            refine lv_goto (tgt := 81) hx hb dX6_reaches_77 (by decide) ?_
            obtain ⟨e0_81, e1_81, e2_81, e3_81, e4_81, e5_81⟩ := inj6 hF
            rw [← e0_81, ← e1_81, ← e2_81, ← e3_81, ← e4_81, ← e5_81] at hQ0
            rw [hQ0]
            exact ret_z hx hb hr (by decide +kernel) hlocks hAe hK hP hD hS [0, 1, 2, 3] rfl rfl dX6_reaches_81
        · have hF := iff_ hF c_45
          refine lv_aload_n hx hb dX6_reaches_48 rfl (lv_at hl 0 rfl) ?_
          refine va_get (D := D) (ci := 10) (v := .int t_gone_w) (C := RX6) (T := TX6) (N := 6) hx hb hts iX6_reaches_X6 hown hK hP 0 rfl rfl 3 (by decide) (hts (.fieldLink RX6 18 "SkipArchive$Search" "gone" "I") (List.mem_of_getElem? (i := 4) rfl)) (fun _ h9 => h9) rfl dX6_reaches_49 ?_
          refine lv_iload_n hx hb dX6_reaches_52 rfl (lv_at hl 2 rfl) ?_
          refine lv_icmp_ge (tgt := 68) hx hb dX6_reaches_53 (by decide) (fun c_53 => ?_) (fun c_53 => ?_)
          · have hF := ift hF c_53
            refine lv_aload_n hx hb dX6_reaches_68 rfl (lv_at hl 0 rfl) ?_
            refine va_get (D := D) (ci := 10) (v := .int t_gone_w) (C := RX6) (T := TX6) (N := 6) hx hb hts iX6_reaches_X6 hown hK hP 0 rfl rfl 3 (by decide) (hts (.fieldLink RX6 18 "SkipArchive$Search" "gone" "I") (List.mem_of_getElem? (i := 4) rfl)) (fun _ h9 => h9) rfl dX6_reaches_69 ?_
            refine lv_iload_n hx hb dX6_reaches_72 rfl (lv_at hl 2 rfl) ?_
            refine lv_icmp_lt (tgt := 80) hx hb dX6_reaches_73 (by decide) (fun c_73bb => ?_) (fun c_73bb => ?_)
            · have hF := ift hF c_73bb
              refine lv_iconst (v := 0) hx hb dX6_reaches_80 (by decide) ?_
              obtain ⟨e0_81, e1_81, e2_81, e3_81, e4_81, e5_81⟩ := inj6 hF
              rw [← e0_81, ← e1_81, ← e2_81, ← e3_81, ← e4_81, ← e5_81] at hQ0
              rw [hQ0]
              exact ret_z hx hb hr (by decide +kernel) hlocks hAe hK hP hD hS [0, 1, 2, 3] rfl rfl dX6_reaches_81
            · have hF := iff_ hF c_73bb
              refine lv_iconst (v := 1) hx hb dX6_reaches_76 (by decide) ?_
              refine lv_goto (tgt := 81) hx hb dX6_reaches_77 (by decide) ?_
              obtain ⟨e0_81, e1_81, e2_81, e3_81, e4_81, e5_81⟩ := inj6 hF
              rw [← e0_81, ← e1_81, ← e2_81, ← e3_81, ← e4_81, ← e5_81] at hQ0
              rw [hQ0]
              exact ret_z hx hb hr (by decide +kernel) hlocks hAe hK hP hD hS [0, 1, 2, 3] rfl rfl dX6_reaches_81
          · have hF := iff_ hF c_53
            refine lv_aload_n hx hb dX6_reaches_56 rfl (lv_at hl 0 rfl) ?_
            refine lv_iload_n hx hb dX6_reaches_57 rfl (lv_at hl 1 rfl) ?_
            obtain ⟨r_58, t_place_58, t_level_58, t_gone_58, t_fallen_58, t_spanned_58, hq_58, hF⟩ := bn6_i hF
            refine cm_Vi (As := [.int x1]) (rest := []) (wr := []) ⟨hx, hb, hml, hown, hts⟩ (c_X6_step l D y fl H.size a_t a_t_ladder a_t_ladder_keys a_t_ladder_weights a_t_ladder_towers a_t_ladder_coin t_place_w t_level_w t_gone_w t_fallen_w t_spanned_w t_ladder_size t_ladder_hidden t_ladder_keys t_ladder_towers x1 r_58 t_place_58 t_level_58 t_gone_58 t_fallen_58 t_spanned_58 hq_58) (cwV 1 hts gX6_reaches_X6_step rfl rfl rfl (by decide +kernel) ⟨Nat.le_of_ble_eq_true rfl, Nat.le_of_ble_eq_true rfl⟩) hK hP hD hS hA [0, 1, 2, 3] [] rfl rfl rfl rfl (by decide) rfl rfl rfl hl.1 rfl (Nat.le_of_ble_eq_true rfl) dX6_reaches_58 ⟨Nat.le_of_ble_eq_true rfl, Nat.le_of_ble_eq_true rfl⟩ (fun H locs hP hD hS => ?_)
            have hP : va_P D vwCl [(a_t, .inr (10, [.ref a_t_ladder, .int t_place_58, .int t_level_58, .int t_gone_58, .int t_fallen_58, .int t_spanned_58])), (a_t_ladder, .inr (7, [.ref a_t_ladder_keys, .ref a_t_ladder_weights, .ref a_t_ladder_towers, .ref a_t_ladder_coin, .int t_ladder_size, .int t_ladder_hidden])), (a_t_ladder_keys, .inl (y 0, 24, .inl t_ladder_keys)), (a_t_ladder_towers, .inl (y 0, 24, .inl t_ladder_towers))] H := hP
            have hD : va_D A [(a_t, .inr (10, [.ref a_t_ladder, .int t_place_58, .int t_level_58, .int t_gone_58, .int t_fallen_58, .int t_spanned_58])), (a_t_ladder, .inr (7, [.ref a_t_ladder_keys, .ref a_t_ladder_weights, .ref a_t_ladder_towers, .ref a_t_ladder_coin, .int t_ladder_size, .int t_ladder_hidden])), (a_t_ladder_keys, .inl (y 0, 24, .inl t_ladder_keys)), (a_t_ladder_towers, .inl (y 0, 24, .inl t_ladder_towers))] := hD
            refine lv_istore_n (lv' := [(3, .int r_58), (0, .ref a_t), (1, .int x1), (2, .int x2), (4, .int x4)]) hx hb dX6_reaches_61 rfl hl (by decide) rfl (fun ls hl => ?_)
            refine lv_iinc (v := x4 + (1 : Int32)) (lv' := [(4, .int (x4 + (1 : Int32))), (3, .int r_58), (0, .ref a_t), (1, .int x1), (2, .int x2)]) hx hb dX6_reaches_62 hl (k := 4) rfl rfl (by decide) rfl (fun ls hl => ?_)
            refine lv_goto (tgt := 36) hx hb dX6_reaches_65 (by decide) ?_
            exact ih t_place_58 t_level_58 t_gone_58 t_fallen_58 t_spanned_58 x1 x2 r_58 (x4 + (1 : Int32)) hF _ _ hP hD hS ls (lv_sub hl [2, 3, 4, 1, 0] rfl)
  refine W_entry hav (Nat.le_of_ble_eq_true rfl) (fun ls hl => ?_)
  have hl : lv_has ls 5 [(0, .ref a_t), (1, .int p1), (2, .int p2)] := hl
  refine lv_aload_n hx hb dX6_reaches_0 rfl (lv_at hl 0 rfl) ?_
  refine lv_iconst (v := -1) hx hb dX6_reaches_1 (by decide) ?_
  refine va_put (D := D) (ci := 10) (v := .int (-1 : Int32)) (ty := .int) (C := RX6) (T := TX6) (N := 6) hx hb hts iX6_reaches_X6 tyX6 tyX6_ok nmX6 hown hK hP hD hS 0 rfl rfl 1 (by decide) (hts (.fieldLink RX6 9 "SkipArchive$Search" "place" "I") (List.mem_of_getElem? (i := 1) rfl)) (fun _ h9 => h9) rfl (by decide +kernel) rfl rfl (Nat.le_of_ble_eq_true rfl) dX6_reaches_2 (fun H locs hP hD hS => ?_)
  have hP : va_P D vwCl [(a_t, .inr (10, [.ref a_t_ladder, .int (-1 : Int32), .int t_level, .int t_gone, .int t_fallen, .int t_spanned])), (a_t_ladder, .inr (7, [.ref a_t_ladder_keys, .ref a_t_ladder_weights, .ref a_t_ladder_towers, .ref a_t_ladder_coin, .int t_ladder_size, .int t_ladder_hidden])), (a_t_ladder_keys, .inl (y 0, 24, .inl t_ladder_keys)), (a_t_ladder_towers, .inl (y 0, 24, .inl t_ladder_towers))] H := hP
  have hD : va_D A [(a_t, .inr (10, [.ref a_t_ladder, .int (-1 : Int32), .int t_level, .int t_gone, .int t_fallen, .int t_spanned])), (a_t_ladder, .inr (7, [.ref a_t_ladder_keys, .ref a_t_ladder_weights, .ref a_t_ladder_towers, .ref a_t_ladder_coin, .int t_ladder_size, .int t_ladder_hidden])), (a_t_ladder_keys, .inl (y 0, 24, .inl t_ladder_keys)), (a_t_ladder_towers, .inl (y 0, 24, .inl t_ladder_towers))] := hD
  refine lv_aload_n hx hb dX6_reaches_5 rfl (lv_at hl 0 rfl) ?_
  refine lv_aload_n hx hb dX6_reaches_6 rfl (lv_at hl 0 rfl) ?_
  refine va_get (D := D) (ci := 10) (v := .ref a_t_ladder) (C := RX6) (T := TX6) (N := 6) hx hb hts iX6_reaches_X6 hown hK hP 0 rfl rfl 0 (by decide) (hts (.fieldLink RX6 27 "SkipArchive$Search" "ladder" "LSkipArchive$Ladder;") (List.mem_of_getElem? (i := 2) rfl)) (fun _ h9 => h9) rfl dX6_reaches_7 ?_
  obtain ⟨r_10, hq_10, hF⟩ := bn_i hF
  refine cr_V (As := []) (rest := [.ref a_t]) ⟨hx, hb, hml, hown, hts⟩ (c_X3_beginning l D y fl a_t_ladder a_t_ladder_keys a_t_ladder_weights a_t_ladder_towers a_t_ladder_coin t_ladder_size t_ladder_hidden t_ladder_towers r_10 hq_10) (cwV 0 hts gX6_reaches_X3_beginning rfl rfl rfl (by decide +kernel) ⟨Nat.le_of_ble_eq_true rfl, Nat.le_of_ble_eq_true rfl⟩) hK hP [1, 3] rfl rfl rfl rfl hl.1 rfl (Nat.le_of_ble_eq_true rfl) dX6_reaches_10 ⟨Nat.le_of_ble_eq_true rfl, Nat.le_of_ble_eq_true rfl⟩ ?_
  refine va_put (D := D) (ci := 10) (v := .int r_10) (ty := .int) (C := RX6) (T := TX6) (N := 6) hx hb hts iX6_reaches_X6 tyX6 tyX6_ok nmX6 hown hK hP hD hS 0 rfl rfl 2 (by decide) (hts (.fieldLink RX6 15 "SkipArchive$Search" "level" "I") (List.mem_of_getElem? (i := 3) rfl)) (fun _ h9 => h9) rfl (by decide +kernel) rfl rfl (Nat.le_of_ble_eq_true rfl) dX6_reaches_13 (fun H locs hP hD hS => ?_)
  have hP : va_P D vwCl [(a_t, .inr (10, [.ref a_t_ladder, .int (-1 : Int32), .int r_10, .int t_gone, .int t_fallen, .int t_spanned])), (a_t_ladder, .inr (7, [.ref a_t_ladder_keys, .ref a_t_ladder_weights, .ref a_t_ladder_towers, .ref a_t_ladder_coin, .int t_ladder_size, .int t_ladder_hidden])), (a_t_ladder_keys, .inl (y 0, 24, .inl t_ladder_keys)), (a_t_ladder_towers, .inl (y 0, 24, .inl t_ladder_towers))] H := hP
  have hD : va_D A [(a_t, .inr (10, [.ref a_t_ladder, .int (-1 : Int32), .int r_10, .int t_gone, .int t_fallen, .int t_spanned])), (a_t_ladder, .inr (7, [.ref a_t_ladder_keys, .ref a_t_ladder_weights, .ref a_t_ladder_towers, .ref a_t_ladder_coin, .int t_ladder_size, .int t_ladder_hidden])), (a_t_ladder_keys, .inl (y 0, 24, .inl t_ladder_keys)), (a_t_ladder_towers, .inl (y 0, 24, .inl t_ladder_towers))] := hD
  refine lv_aload_n hx hb dX6_reaches_16 rfl (lv_at hl 0 rfl) ?_
  refine lv_iconst (v := 0) hx hb dX6_reaches_17 (by decide) ?_
  refine va_put (D := D) (ci := 10) (v := .int (0 : Int32)) (ty := .int) (C := RX6) (T := TX6) (N := 6) hx hb hts iX6_reaches_X6 tyX6 tyX6_ok nmX6 hown hK hP hD hS 0 rfl rfl 3 (by decide) (hts (.fieldLink RX6 18 "SkipArchive$Search" "gone" "I") (List.mem_of_getElem? (i := 4) rfl)) (fun _ h9 => h9) rfl (by decide +kernel) rfl rfl (Nat.le_of_ble_eq_true rfl) dX6_reaches_18 (fun H locs hP hD hS => ?_)
  have hP : va_P D vwCl [(a_t, .inr (10, [.ref a_t_ladder, .int (-1 : Int32), .int r_10, .int (0 : Int32), .int t_fallen, .int t_spanned])), (a_t_ladder, .inr (7, [.ref a_t_ladder_keys, .ref a_t_ladder_weights, .ref a_t_ladder_towers, .ref a_t_ladder_coin, .int t_ladder_size, .int t_ladder_hidden])), (a_t_ladder_keys, .inl (y 0, 24, .inl t_ladder_keys)), (a_t_ladder_towers, .inl (y 0, 24, .inl t_ladder_towers))] H := hP
  have hD : va_D A [(a_t, .inr (10, [.ref a_t_ladder, .int (-1 : Int32), .int r_10, .int (0 : Int32), .int t_fallen, .int t_spanned])), (a_t_ladder, .inr (7, [.ref a_t_ladder_keys, .ref a_t_ladder_weights, .ref a_t_ladder_towers, .ref a_t_ladder_coin, .int t_ladder_size, .int t_ladder_hidden])), (a_t_ladder_keys, .inl (y 0, 24, .inl t_ladder_keys)), (a_t_ladder_towers, .inl (y 0, 24, .inl t_ladder_towers))] := hD
  refine lv_aload_n hx hb dX6_reaches_21 rfl (lv_at hl 0 rfl) ?_
  refine lv_iconst (v := 0) hx hb dX6_reaches_22 (by decide) ?_
  refine va_put (D := D) (ci := 10) (v := .int (0 : Int32)) (ty := .int) (C := RX6) (T := TX6) (N := 6) hx hb hts iX6_reaches_X6 tyX6 tyX6_ok nmX6 hown hK hP hD hS 0 rfl rfl 4 (by decide) (hts (.fieldLink RX6 21 "SkipArchive$Search" "fallen" "I") (List.mem_of_getElem? (i := 5) rfl)) (fun _ h9 => h9) rfl (by decide +kernel) rfl rfl (Nat.le_of_ble_eq_true rfl) dX6_reaches_23 (fun H locs hP hD hS => ?_)
  have hP : va_P D vwCl [(a_t, .inr (10, [.ref a_t_ladder, .int (-1 : Int32), .int r_10, .int (0 : Int32), .int (0 : Int32), .int t_spanned])), (a_t_ladder, .inr (7, [.ref a_t_ladder_keys, .ref a_t_ladder_weights, .ref a_t_ladder_towers, .ref a_t_ladder_coin, .int t_ladder_size, .int t_ladder_hidden])), (a_t_ladder_keys, .inl (y 0, 24, .inl t_ladder_keys)), (a_t_ladder_towers, .inl (y 0, 24, .inl t_ladder_towers))] H := hP
  have hD : va_D A [(a_t, .inr (10, [.ref a_t_ladder, .int (-1 : Int32), .int r_10, .int (0 : Int32), .int (0 : Int32), .int t_spanned])), (a_t_ladder, .inr (7, [.ref a_t_ladder_keys, .ref a_t_ladder_weights, .ref a_t_ladder_towers, .ref a_t_ladder_coin, .int t_ladder_size, .int t_ladder_hidden])), (a_t_ladder_keys, .inl (y 0, 24, .inl t_ladder_keys)), (a_t_ladder_towers, .inl (y 0, 24, .inl t_ladder_towers))] := hD
  refine lv_aload_n hx hb dX6_reaches_26 rfl (lv_at hl 0 rfl) ?_
  refine lv_iconst (v := 0) hx hb dX6_reaches_27 (by decide) ?_
  refine va_put (D := D) (ci := 10) (v := .int (0 : Int32)) (ty := .int) (C := RX6) (T := TX6) (N := 6) hx hb hts iX6_reaches_X6 tyX6 tyX6_ok nmX6 hown hK hP hD hS 0 rfl rfl 5 (by decide) (hts (.fieldLink RX6 24 "SkipArchive$Search" "spanned" "I") (List.mem_of_getElem? (i := 6) rfl)) (fun _ h9 => h9) rfl (by decide +kernel) rfl rfl (Nat.le_of_ble_eq_true rfl) dX6_reaches_28 (fun H locs hP hD hS => ?_)
  have hP : va_P D vwCl [(a_t, .inr (10, [.ref a_t_ladder, .int (-1 : Int32), .int r_10, .int (0 : Int32), .int (0 : Int32), .int (0 : Int32)])), (a_t_ladder, .inr (7, [.ref a_t_ladder_keys, .ref a_t_ladder_weights, .ref a_t_ladder_towers, .ref a_t_ladder_coin, .int t_ladder_size, .int t_ladder_hidden])), (a_t_ladder_keys, .inl (y 0, 24, .inl t_ladder_keys)), (a_t_ladder_towers, .inl (y 0, 24, .inl t_ladder_towers))] H := hP
  have hD : va_D A [(a_t, .inr (10, [.ref a_t_ladder, .int (-1 : Int32), .int r_10, .int (0 : Int32), .int (0 : Int32), .int (0 : Int32)])), (a_t_ladder, .inr (7, [.ref a_t_ladder_keys, .ref a_t_ladder_weights, .ref a_t_ladder_towers, .ref a_t_ladder_coin, .int t_ladder_size, .int t_ladder_hidden])), (a_t_ladder_keys, .inl (y 0, 24, .inl t_ladder_keys)), (a_t_ladder_towers, .inl (y 0, 24, .inl t_ladder_towers))] := hD
  refine lv_iconst (v := 1) hx hb dX6_reaches_31 (by decide) ?_
  refine lv_istore_n (lv' := [(3, .int (1 : Int32)), (0, .ref a_t), (1, .int p1), (2, .int p2)]) hx hb dX6_reaches_32 rfl hl (by decide) rfl (fun ls hl => ?_)
  refine lv_iconst (v := 0) hx hb dX6_reaches_33 (by decide) ?_
  refine lv_istore (lv' := [(4, .int (0 : Int32)), (3, .int (1 : Int32)), (0, .ref a_t), (1, .int p1), (2, .int p2)]) hx hb dX6_reaches_34 hl (by decide) rfl (fun ls hl => ?_)
  exact k_36 fl (-1 : Int32) r_10 (0 : Int32) (0 : Int32) (0 : Int32) p1 p2 (1 : Int32) (0 : Int32) hF _ _ hP hD hS ls (lv_sub hl [2, 3, 4, 1, 0] rfl)
def F_X6_stepsTo (fl : Nat) (t_place : Int32) (t_level : Int32) (t_gone : Int32) (t_fallen : Int32) (t_spanned : Int32) (t_ladder_size : Int32) (t_ladder_hidden : Int32) (t_ladder_keys : Nat → Int32) (t_ladder_towers : Nat → Int32) (p1 : Int32) : Option (Int32 × Int32 × Int32 × Int32 × Int32 × Int32) := bn6 (F_X6_reaches fl t_place t_level t_gone t_fallen t_spanned t_ladder_size t_ladder_hidden t_ladder_keys t_ladder_towers p1 (25 : Int32)) fun r_4 t_place_4 t_level_4 t_gone_4 t_fallen_4 t_spanned_4 => some (t_gone_4 + t_fallen_4, t_place_4, t_level_4, t_gone_4, t_fallen_4, t_spanned_4)
theorem iX6_stepsTo_X6 : ∀ w ∈ u_ws RX6 TX6 6, w ∈ wsX6_stepsTo := fun w h => List.mem_cons_of_mem _ (List.mem_append_left _ (List.mem_append_left _ (List.mem_append_right _ h)))
set_option maxHeartbeats 4000000 in
set_option maxRecDepth 100000 in
theorem c_X6_stepsTo (l : Launch) (D : va_G) (y : Nat → ClassId) (fl : Nat) (sz : Nat) (a_t : Nat) (a_t_ladder : Nat) (a_t_ladder_keys : Nat) (a_t_ladder_weights : Nat) (a_t_ladder_towers : Nat) (a_t_ladder_coin : Nat) (t_place : Int32) (t_level : Int32) (t_gone : Int32) (t_fallen : Int32) (t_spanned : Int32) (t_ladder_size : Int32) (t_ladder_hidden : Int32) (t_ladder_keys : Nat → Int32) (t_ladder_towers : Nat → Int32) (p1 : Int32) (r : Int32) (t_place' : Int32) (t_level' : Int32) (t_gone' : Int32) (t_fallen' : Int32) (t_spanned' : Int32) (hF : F_X6_stepsTo fl t_place t_level t_gone t_fallen t_spanned t_ladder_size t_ladder_hidden t_ladder_keys t_ladder_towers p1 = some (r, t_place', t_level', t_gone', t_fallen', t_spanned')) : Met l yX6_stepsTo wsX6_stepsTo (rmq 5 112) (wrP D y [(a_t, .inr (10, [.ref a_t_ladder, .int t_place, .int t_level, .int t_gone, .int t_fallen, .int t_spanned])), (a_t_ladder, .inr (7, [.ref a_t_ladder_keys, .ref a_t_ladder_weights, .ref a_t_ladder_towers, .ref a_t_ladder_coin, .int t_ladder_size, .int t_ladder_hidden])), (a_t_ladder_keys, .inl (y 0, 24, .inl t_ladder_keys)), (a_t_ladder_towers, .inl (y 0, 24, .inl t_ladder_towers))] sz [.ref a_t, .int p1]) (wQi D y r [(a_t, .inr (10, [.ref a_t_ladder, .int t_place', .int t_level', .int t_gone', .int t_fallen', .int t_spanned'])), (a_t_ladder, .inr (7, [.ref a_t_ladder_keys, .ref a_t_ladder_weights, .ref a_t_ladder_towers, .ref a_t_ladder_coin, .int t_ladder_size, .int t_ladder_hidden])), (a_t_ladder_keys, .inl (y 0, 24, .inl t_ladder_keys)), (a_t_ladder_towers, .inl (y 0, 24, .inl t_ladder_towers))] [(a_t, .inr (10, [.ref a_t_ladder, .int t_place, .int t_level, .int t_gone, .int t_fallen, .int t_spanned])), (a_t_ladder, .inr (7, [.ref a_t_ladder_keys, .ref a_t_ladder_weights, .ref a_t_ladder_towers, .ref a_t_ladder_coin, .int t_ladder_size, .int t_ladder_hidden])), (a_t_ladder_keys, .inl (y 0, 24, .inl t_ladder_keys)), (a_t_ladder_towers, .inl (y 0, 24, .inl t_ladder_towers))] sz) 0 0 (va_A [(a_t, .inr (10, [.ref a_t_ladder, .int t_place, .int t_level, .int t_gone, .int t_fallen, .int t_spanned])), (a_t_ladder, .inr (7, [.ref a_t_ladder_keys, .ref a_t_ladder_weights, .ref a_t_ladder_towers, .ref a_t_ladder_coin, .int t_ladder_size, .int t_ladder_hidden])), (a_t_ladder_keys, .inl (y 0, 24, .inl t_ladder_keys)), (a_t_ladder_towers, .inl (y 0, 24, .inl t_ladder_towers))] sz) := by
  refine Met.ofW (cc := cX6_stepsTo) (maxL := 2) (ret := (some .int)) (by decide) rfl ?_
  intro p e s m args below meth c s₁ B hml hv
  obtain ⟨hav, hsz, hP, hK, hD0⟩ := hv
  have hx := B.exec
  have hb := B.bytes
  have hr := B.returns
  have hts := atoms_spec (ws := wsX6_stepsTo) B.pre
  have hown : s.vm.findClass RX6 = some m.cls := findClass_of_methodNamed B.named
  have hlocks := B.notSynchronized
  subst hsz
  have hD := hD0.self (sz := s.heap.size)
  obtain ⟨A, hAe⟩ : ∃ A : Nat → Prop, va_A [(a_t, .inr (10, [.ref a_t_ladder, .int t_place, .int t_level, .int t_gone, .int t_fallen, .int t_spanned])), (a_t_ladder, .inr (7, [.ref a_t_ladder_keys, .ref a_t_ladder_weights, .ref a_t_ladder_towers, .ref a_t_ladder_coin, .int t_ladder_size, .int t_ladder_hidden])), (a_t_ladder_keys, .inl (y 0, 24, .inl t_ladder_keys)), (a_t_ladder_towers, .inl (y 0, 24, .inl t_ladder_towers))] s.heap.size = A := ⟨_, rfl⟩
  rw [hAe] at hD
  have hA : ∀ q, s.heap.size ≤ q → A q := fun q h => by rw [← hAe]; exact Or.inr h
  have hS : va_S A s.heap s.heap [] := va_S.rf
  refine W_q (R1 := (rmq 5 112)) rfl (fun Q0 hQ0 => ?_)
  unfold F_X6_stepsTo at hF
  refine W_entry hav (Nat.le_of_ble_eq_true rfl) (fun ls hl => ?_)
  have hl : lv_has ls 2 [(0, .ref a_t), (1, .int p1)] := hl
  refine lv_aload_n hx hb dX6_stepsTo_0 rfl (lv_at hl 0 rfl) ?_
  refine lv_iload_n hx hb dX6_stepsTo_1 rfl (lv_at hl 1 rfl) ?_
  refine lv_bipush (v := 25) hx hb dX6_stepsTo_2 (by decide) ?_
  obtain ⟨r_4, t_place_4, t_level_4, t_gone_4, t_fallen_4, t_spanned_4, hq_4, hF⟩ := bn6_i hF
  refine cm_Vi (As := [.int p1, .int (25 : Int32)]) (rest := []) (wr := []) ⟨hx, hb, hml, hown, hts⟩ (c_X6_reaches l D y fl s.heap.size a_t a_t_ladder a_t_ladder_keys a_t_ladder_weights a_t_ladder_towers a_t_ladder_coin t_place t_level t_gone t_fallen t_spanned t_ladder_size t_ladder_hidden t_ladder_keys t_ladder_towers p1 (25 : Int32) r_4 t_place_4 t_level_4 t_gone_4 t_fallen_4 t_spanned_4 hq_4) (cwV 2 hts gX6_stepsTo_X6_reaches rfl rfl rfl (by decide +kernel) ⟨Nat.le_of_ble_eq_true rfl, Nat.le_of_ble_eq_true rfl⟩) hK hP hD hS hA [0, 1, 2, 3] [] rfl rfl rfl rfl (by decide) rfl rfl rfl hl.1 rfl (Nat.le_of_ble_eq_true rfl) dX6_stepsTo_4 ⟨Nat.le_of_ble_eq_true rfl, Nat.le_of_ble_eq_true rfl⟩ (fun H locs hP hD hS => ?_)
  have hP : va_P D vwCl [(a_t, .inr (10, [.ref a_t_ladder, .int t_place_4, .int t_level_4, .int t_gone_4, .int t_fallen_4, .int t_spanned_4])), (a_t_ladder, .inr (7, [.ref a_t_ladder_keys, .ref a_t_ladder_weights, .ref a_t_ladder_towers, .ref a_t_ladder_coin, .int t_ladder_size, .int t_ladder_hidden])), (a_t_ladder_keys, .inl (y 0, 24, .inl t_ladder_keys)), (a_t_ladder_towers, .inl (y 0, 24, .inl t_ladder_towers))] H := hP
  have hD : va_D A [(a_t, .inr (10, [.ref a_t_ladder, .int t_place_4, .int t_level_4, .int t_gone_4, .int t_fallen_4, .int t_spanned_4])), (a_t_ladder, .inr (7, [.ref a_t_ladder_keys, .ref a_t_ladder_weights, .ref a_t_ladder_towers, .ref a_t_ladder_coin, .int t_ladder_size, .int t_ladder_hidden])), (a_t_ladder_keys, .inl (y 0, 24, .inl t_ladder_keys)), (a_t_ladder_towers, .inl (y 0, 24, .inl t_ladder_towers))] := hD
  refine lv_pop hx hb dX6_stepsTo_7 rfl ?_
  refine lv_aload_n hx hb dX6_stepsTo_8 rfl (lv_at hl 0 rfl) ?_
  refine va_get (D := D) (ci := 10) (v := .int t_gone_4) (C := RX6) (T := TX6) (N := 6) hx hb hts iX6_stepsTo_X6 hown hK hP 0 rfl rfl 3 (by decide) (hts (.fieldLink RX6 18 "SkipArchive$Search" "gone" "I") (List.mem_of_getElem? (i := 1) rfl)) (fun _ h9 => h9) rfl dX6_stepsTo_9 ?_
  refine lv_aload_n hx hb dX6_stepsTo_12 rfl (lv_at hl 0 rfl) ?_
  refine va_get (D := D) (ci := 10) (v := .int t_fallen_4) (C := RX6) (T := TX6) (N := 6) hx hb hts iX6_stepsTo_X6 hown hK hP 0 rfl rfl 4 (by decide) (hts (.fieldLink RX6 21 "SkipArchive$Search" "fallen" "I") (List.mem_of_getElem? (i := 2) rfl)) (fun _ h9 => h9) rfl dX6_stepsTo_13 ?_
  refine lv_iadd hx hb dX6_stepsTo_16 ?_
  obtain ⟨e0_17, e1_17, e2_17, e3_17, e4_17, e5_17⟩ := inj6 hF
  rw [← e0_17, ← e1_17, ← e2_17, ← e3_17, ← e4_17, ← e5_17] at hQ0
  rw [hQ0]
  exact ret_i hx hb hr hlocks hAe hK hP hD hS [0, 1, 2, 3] rfl rfl dX6_stepsTo_17
def F_X6_fallsTo (fl : Nat) (t_place : Int32) (t_level : Int32) (t_gone : Int32) (t_fallen : Int32) (t_spanned : Int32) (t_ladder_size : Int32) (t_ladder_hidden : Int32) (t_ladder_keys : Nat → Int32) (t_ladder_towers : Nat → Int32) (p1 : Int32) : Option (Int32 × Int32 × Int32 × Int32 × Int32 × Int32) := bn6 (F_X6_reaches fl t_place t_level t_gone t_fallen t_spanned t_ladder_size t_ladder_hidden t_ladder_keys t_ladder_towers p1 (25 : Int32)) fun r_4 t_place_4 t_level_4 t_gone_4 t_fallen_4 t_spanned_4 => some (t_fallen_4, t_place_4, t_level_4, t_gone_4, t_fallen_4, t_spanned_4)
theorem iX6_fallsTo_X6 : ∀ w ∈ u_ws RX6 TX6 6, w ∈ wsX6_fallsTo := fun w h => List.mem_cons_of_mem _ (List.mem_append_left _ (List.mem_append_left _ (List.mem_append_right _ h)))
set_option maxHeartbeats 4000000 in
set_option maxRecDepth 100000 in
theorem c_X6_fallsTo (l : Launch) (D : va_G) (y : Nat → ClassId) (fl : Nat) (sz : Nat) (a_t : Nat) (a_t_ladder : Nat) (a_t_ladder_keys : Nat) (a_t_ladder_weights : Nat) (a_t_ladder_towers : Nat) (a_t_ladder_coin : Nat) (t_place : Int32) (t_level : Int32) (t_gone : Int32) (t_fallen : Int32) (t_spanned : Int32) (t_ladder_size : Int32) (t_ladder_hidden : Int32) (t_ladder_keys : Nat → Int32) (t_ladder_towers : Nat → Int32) (p1 : Int32) (r : Int32) (t_place' : Int32) (t_level' : Int32) (t_gone' : Int32) (t_fallen' : Int32) (t_spanned' : Int32) (hF : F_X6_fallsTo fl t_place t_level t_gone t_fallen t_spanned t_ladder_size t_ladder_hidden t_ladder_keys t_ladder_towers p1 = some (r, t_place', t_level', t_gone', t_fallen', t_spanned')) : Met l yX6_fallsTo wsX6_fallsTo (rmq 5 112) (wrP D y [(a_t, .inr (10, [.ref a_t_ladder, .int t_place, .int t_level, .int t_gone, .int t_fallen, .int t_spanned])), (a_t_ladder, .inr (7, [.ref a_t_ladder_keys, .ref a_t_ladder_weights, .ref a_t_ladder_towers, .ref a_t_ladder_coin, .int t_ladder_size, .int t_ladder_hidden])), (a_t_ladder_keys, .inl (y 0, 24, .inl t_ladder_keys)), (a_t_ladder_towers, .inl (y 0, 24, .inl t_ladder_towers))] sz [.ref a_t, .int p1]) (wQi D y r [(a_t, .inr (10, [.ref a_t_ladder, .int t_place', .int t_level', .int t_gone', .int t_fallen', .int t_spanned'])), (a_t_ladder, .inr (7, [.ref a_t_ladder_keys, .ref a_t_ladder_weights, .ref a_t_ladder_towers, .ref a_t_ladder_coin, .int t_ladder_size, .int t_ladder_hidden])), (a_t_ladder_keys, .inl (y 0, 24, .inl t_ladder_keys)), (a_t_ladder_towers, .inl (y 0, 24, .inl t_ladder_towers))] [(a_t, .inr (10, [.ref a_t_ladder, .int t_place, .int t_level, .int t_gone, .int t_fallen, .int t_spanned])), (a_t_ladder, .inr (7, [.ref a_t_ladder_keys, .ref a_t_ladder_weights, .ref a_t_ladder_towers, .ref a_t_ladder_coin, .int t_ladder_size, .int t_ladder_hidden])), (a_t_ladder_keys, .inl (y 0, 24, .inl t_ladder_keys)), (a_t_ladder_towers, .inl (y 0, 24, .inl t_ladder_towers))] sz) 0 0 (va_A [(a_t, .inr (10, [.ref a_t_ladder, .int t_place, .int t_level, .int t_gone, .int t_fallen, .int t_spanned])), (a_t_ladder, .inr (7, [.ref a_t_ladder_keys, .ref a_t_ladder_weights, .ref a_t_ladder_towers, .ref a_t_ladder_coin, .int t_ladder_size, .int t_ladder_hidden])), (a_t_ladder_keys, .inl (y 0, 24, .inl t_ladder_keys)), (a_t_ladder_towers, .inl (y 0, 24, .inl t_ladder_towers))] sz) := by
  refine Met.ofW (cc := cX6_fallsTo) (maxL := 2) (ret := (some .int)) (by decide) rfl ?_
  intro p e s m args below meth c s₁ B hml hv
  obtain ⟨hav, hsz, hP, hK, hD0⟩ := hv
  have hx := B.exec
  have hb := B.bytes
  have hr := B.returns
  have hts := atoms_spec (ws := wsX6_fallsTo) B.pre
  have hown : s.vm.findClass RX6 = some m.cls := findClass_of_methodNamed B.named
  have hlocks := B.notSynchronized
  subst hsz
  have hD := hD0.self (sz := s.heap.size)
  obtain ⟨A, hAe⟩ : ∃ A : Nat → Prop, va_A [(a_t, .inr (10, [.ref a_t_ladder, .int t_place, .int t_level, .int t_gone, .int t_fallen, .int t_spanned])), (a_t_ladder, .inr (7, [.ref a_t_ladder_keys, .ref a_t_ladder_weights, .ref a_t_ladder_towers, .ref a_t_ladder_coin, .int t_ladder_size, .int t_ladder_hidden])), (a_t_ladder_keys, .inl (y 0, 24, .inl t_ladder_keys)), (a_t_ladder_towers, .inl (y 0, 24, .inl t_ladder_towers))] s.heap.size = A := ⟨_, rfl⟩
  rw [hAe] at hD
  have hA : ∀ q, s.heap.size ≤ q → A q := fun q h => by rw [← hAe]; exact Or.inr h
  have hS : va_S A s.heap s.heap [] := va_S.rf
  refine W_q (R1 := (rmq 5 112)) rfl (fun Q0 hQ0 => ?_)
  unfold F_X6_fallsTo at hF
  refine W_entry hav (Nat.le_of_ble_eq_true rfl) (fun ls hl => ?_)
  have hl : lv_has ls 2 [(0, .ref a_t), (1, .int p1)] := hl
  refine lv_aload_n hx hb dX6_fallsTo_0 rfl (lv_at hl 0 rfl) ?_
  refine lv_iload_n hx hb dX6_fallsTo_1 rfl (lv_at hl 1 rfl) ?_
  refine lv_bipush (v := 25) hx hb dX6_fallsTo_2 (by decide) ?_
  obtain ⟨r_4, t_place_4, t_level_4, t_gone_4, t_fallen_4, t_spanned_4, hq_4, hF⟩ := bn6_i hF
  refine cm_Vi (As := [.int p1, .int (25 : Int32)]) (rest := []) (wr := []) ⟨hx, hb, hml, hown, hts⟩ (c_X6_reaches l D y fl s.heap.size a_t a_t_ladder a_t_ladder_keys a_t_ladder_weights a_t_ladder_towers a_t_ladder_coin t_place t_level t_gone t_fallen t_spanned t_ladder_size t_ladder_hidden t_ladder_keys t_ladder_towers p1 (25 : Int32) r_4 t_place_4 t_level_4 t_gone_4 t_fallen_4 t_spanned_4 hq_4) (cwV 2 hts gX6_fallsTo_X6_reaches rfl rfl rfl (by decide +kernel) ⟨Nat.le_of_ble_eq_true rfl, Nat.le_of_ble_eq_true rfl⟩) hK hP hD hS hA [0, 1, 2, 3] [] rfl rfl rfl rfl (by decide) rfl rfl rfl hl.1 rfl (Nat.le_of_ble_eq_true rfl) dX6_fallsTo_4 ⟨Nat.le_of_ble_eq_true rfl, Nat.le_of_ble_eq_true rfl⟩ (fun H locs hP hD hS => ?_)
  have hP : va_P D vwCl [(a_t, .inr (10, [.ref a_t_ladder, .int t_place_4, .int t_level_4, .int t_gone_4, .int t_fallen_4, .int t_spanned_4])), (a_t_ladder, .inr (7, [.ref a_t_ladder_keys, .ref a_t_ladder_weights, .ref a_t_ladder_towers, .ref a_t_ladder_coin, .int t_ladder_size, .int t_ladder_hidden])), (a_t_ladder_keys, .inl (y 0, 24, .inl t_ladder_keys)), (a_t_ladder_towers, .inl (y 0, 24, .inl t_ladder_towers))] H := hP
  have hD : va_D A [(a_t, .inr (10, [.ref a_t_ladder, .int t_place_4, .int t_level_4, .int t_gone_4, .int t_fallen_4, .int t_spanned_4])), (a_t_ladder, .inr (7, [.ref a_t_ladder_keys, .ref a_t_ladder_weights, .ref a_t_ladder_towers, .ref a_t_ladder_coin, .int t_ladder_size, .int t_ladder_hidden])), (a_t_ladder_keys, .inl (y 0, 24, .inl t_ladder_keys)), (a_t_ladder_towers, .inl (y 0, 24, .inl t_ladder_towers))] := hD
  refine lv_pop hx hb dX6_fallsTo_7 rfl ?_
  refine lv_aload_n hx hb dX6_fallsTo_8 rfl (lv_at hl 0 rfl) ?_
  refine va_get (D := D) (ci := 10) (v := .int t_fallen_4) (C := RX6) (T := TX6) (N := 6) hx hb hts iX6_fallsTo_X6 hown hK hP 0 rfl rfl 4 (by decide) (hts (.fieldLink RX6 21 "SkipArchive$Search" "fallen" "I") (List.mem_of_getElem? (i := 1) rfl)) (fun _ h9 => h9) rfl dX6_fallsTo_9 ?_
  obtain ⟨e0_12, e1_12, e2_12, e3_12, e4_12, e5_12⟩ := inj6 hF
  rw [← e0_12, ← e1_12, ← e2_12, ← e3_12, ← e4_12, ← e5_12] at hQ0
  rw [hQ0]
  exact ret_i hx hb hr hlocks hAe hK hP hD hS [0, 1, 2, 3] rfl rfl dX6_fallsTo_12
def F_X6_spansTo (fl : Nat) (t_place : Int32) (t_level : Int32) (t_gone : Int32) (t_fallen : Int32) (t_spanned : Int32) (t_ladder_size : Int32) (t_ladder_hidden : Int32) (t_ladder_keys : Nat → Int32) (t_ladder_towers : Nat → Int32) (p1 : Int32) : Option (Int32 × Int32 × Int32 × Int32 × Int32 × Int32) := bn6 (F_X6_reaches fl t_place t_level t_gone t_fallen t_spanned t_ladder_size t_ladder_hidden t_ladder_keys t_ladder_towers p1 (25 : Int32)) fun r_4 t_place_4 t_level_4 t_gone_4 t_fallen_4 t_spanned_4 => some (t_spanned_4, t_place_4, t_level_4, t_gone_4, t_fallen_4, t_spanned_4)
theorem iX6_spansTo_X6 : ∀ w ∈ u_ws RX6 TX6 6, w ∈ wsX6_spansTo := fun w h => List.mem_cons_of_mem _ (List.mem_append_left _ (List.mem_append_left _ (List.mem_append_right _ h)))
set_option maxHeartbeats 4000000 in
set_option maxRecDepth 100000 in
theorem c_X6_spansTo (l : Launch) (D : va_G) (y : Nat → ClassId) (fl : Nat) (sz : Nat) (a_t : Nat) (a_t_ladder : Nat) (a_t_ladder_keys : Nat) (a_t_ladder_weights : Nat) (a_t_ladder_towers : Nat) (a_t_ladder_coin : Nat) (t_place : Int32) (t_level : Int32) (t_gone : Int32) (t_fallen : Int32) (t_spanned : Int32) (t_ladder_size : Int32) (t_ladder_hidden : Int32) (t_ladder_keys : Nat → Int32) (t_ladder_towers : Nat → Int32) (p1 : Int32) (r : Int32) (t_place' : Int32) (t_level' : Int32) (t_gone' : Int32) (t_fallen' : Int32) (t_spanned' : Int32) (hF : F_X6_spansTo fl t_place t_level t_gone t_fallen t_spanned t_ladder_size t_ladder_hidden t_ladder_keys t_ladder_towers p1 = some (r, t_place', t_level', t_gone', t_fallen', t_spanned')) : Met l yX6_spansTo wsX6_spansTo (rmq 5 112) (wrP D y [(a_t, .inr (10, [.ref a_t_ladder, .int t_place, .int t_level, .int t_gone, .int t_fallen, .int t_spanned])), (a_t_ladder, .inr (7, [.ref a_t_ladder_keys, .ref a_t_ladder_weights, .ref a_t_ladder_towers, .ref a_t_ladder_coin, .int t_ladder_size, .int t_ladder_hidden])), (a_t_ladder_keys, .inl (y 0, 24, .inl t_ladder_keys)), (a_t_ladder_towers, .inl (y 0, 24, .inl t_ladder_towers))] sz [.ref a_t, .int p1]) (wQi D y r [(a_t, .inr (10, [.ref a_t_ladder, .int t_place', .int t_level', .int t_gone', .int t_fallen', .int t_spanned'])), (a_t_ladder, .inr (7, [.ref a_t_ladder_keys, .ref a_t_ladder_weights, .ref a_t_ladder_towers, .ref a_t_ladder_coin, .int t_ladder_size, .int t_ladder_hidden])), (a_t_ladder_keys, .inl (y 0, 24, .inl t_ladder_keys)), (a_t_ladder_towers, .inl (y 0, 24, .inl t_ladder_towers))] [(a_t, .inr (10, [.ref a_t_ladder, .int t_place, .int t_level, .int t_gone, .int t_fallen, .int t_spanned])), (a_t_ladder, .inr (7, [.ref a_t_ladder_keys, .ref a_t_ladder_weights, .ref a_t_ladder_towers, .ref a_t_ladder_coin, .int t_ladder_size, .int t_ladder_hidden])), (a_t_ladder_keys, .inl (y 0, 24, .inl t_ladder_keys)), (a_t_ladder_towers, .inl (y 0, 24, .inl t_ladder_towers))] sz) 0 0 (va_A [(a_t, .inr (10, [.ref a_t_ladder, .int t_place, .int t_level, .int t_gone, .int t_fallen, .int t_spanned])), (a_t_ladder, .inr (7, [.ref a_t_ladder_keys, .ref a_t_ladder_weights, .ref a_t_ladder_towers, .ref a_t_ladder_coin, .int t_ladder_size, .int t_ladder_hidden])), (a_t_ladder_keys, .inl (y 0, 24, .inl t_ladder_keys)), (a_t_ladder_towers, .inl (y 0, 24, .inl t_ladder_towers))] sz) := by
  refine Met.ofW (cc := cX6_spansTo) (maxL := 2) (ret := (some .int)) (by decide) rfl ?_
  intro p e s m args below meth c s₁ B hml hv
  obtain ⟨hav, hsz, hP, hK, hD0⟩ := hv
  have hx := B.exec
  have hb := B.bytes
  have hr := B.returns
  have hts := atoms_spec (ws := wsX6_spansTo) B.pre
  have hown : s.vm.findClass RX6 = some m.cls := findClass_of_methodNamed B.named
  have hlocks := B.notSynchronized
  subst hsz
  have hD := hD0.self (sz := s.heap.size)
  obtain ⟨A, hAe⟩ : ∃ A : Nat → Prop, va_A [(a_t, .inr (10, [.ref a_t_ladder, .int t_place, .int t_level, .int t_gone, .int t_fallen, .int t_spanned])), (a_t_ladder, .inr (7, [.ref a_t_ladder_keys, .ref a_t_ladder_weights, .ref a_t_ladder_towers, .ref a_t_ladder_coin, .int t_ladder_size, .int t_ladder_hidden])), (a_t_ladder_keys, .inl (y 0, 24, .inl t_ladder_keys)), (a_t_ladder_towers, .inl (y 0, 24, .inl t_ladder_towers))] s.heap.size = A := ⟨_, rfl⟩
  rw [hAe] at hD
  have hA : ∀ q, s.heap.size ≤ q → A q := fun q h => by rw [← hAe]; exact Or.inr h
  have hS : va_S A s.heap s.heap [] := va_S.rf
  refine W_q (R1 := (rmq 5 112)) rfl (fun Q0 hQ0 => ?_)
  unfold F_X6_spansTo at hF
  refine W_entry hav (Nat.le_of_ble_eq_true rfl) (fun ls hl => ?_)
  have hl : lv_has ls 2 [(0, .ref a_t), (1, .int p1)] := hl
  refine lv_aload_n hx hb dX6_spansTo_0 rfl (lv_at hl 0 rfl) ?_
  refine lv_iload_n hx hb dX6_spansTo_1 rfl (lv_at hl 1 rfl) ?_
  refine lv_bipush (v := 25) hx hb dX6_spansTo_2 (by decide) ?_
  obtain ⟨r_4, t_place_4, t_level_4, t_gone_4, t_fallen_4, t_spanned_4, hq_4, hF⟩ := bn6_i hF
  refine cm_Vi (As := [.int p1, .int (25 : Int32)]) (rest := []) (wr := []) ⟨hx, hb, hml, hown, hts⟩ (c_X6_reaches l D y fl s.heap.size a_t a_t_ladder a_t_ladder_keys a_t_ladder_weights a_t_ladder_towers a_t_ladder_coin t_place t_level t_gone t_fallen t_spanned t_ladder_size t_ladder_hidden t_ladder_keys t_ladder_towers p1 (25 : Int32) r_4 t_place_4 t_level_4 t_gone_4 t_fallen_4 t_spanned_4 hq_4) (cwV 2 hts gX6_spansTo_X6_reaches rfl rfl rfl (by decide +kernel) ⟨Nat.le_of_ble_eq_true rfl, Nat.le_of_ble_eq_true rfl⟩) hK hP hD hS hA [0, 1, 2, 3] [] rfl rfl rfl rfl (by decide) rfl rfl rfl hl.1 rfl (Nat.le_of_ble_eq_true rfl) dX6_spansTo_4 ⟨Nat.le_of_ble_eq_true rfl, Nat.le_of_ble_eq_true rfl⟩ (fun H locs hP hD hS => ?_)
  have hP : va_P D vwCl [(a_t, .inr (10, [.ref a_t_ladder, .int t_place_4, .int t_level_4, .int t_gone_4, .int t_fallen_4, .int t_spanned_4])), (a_t_ladder, .inr (7, [.ref a_t_ladder_keys, .ref a_t_ladder_weights, .ref a_t_ladder_towers, .ref a_t_ladder_coin, .int t_ladder_size, .int t_ladder_hidden])), (a_t_ladder_keys, .inl (y 0, 24, .inl t_ladder_keys)), (a_t_ladder_towers, .inl (y 0, 24, .inl t_ladder_towers))] H := hP
  have hD : va_D A [(a_t, .inr (10, [.ref a_t_ladder, .int t_place_4, .int t_level_4, .int t_gone_4, .int t_fallen_4, .int t_spanned_4])), (a_t_ladder, .inr (7, [.ref a_t_ladder_keys, .ref a_t_ladder_weights, .ref a_t_ladder_towers, .ref a_t_ladder_coin, .int t_ladder_size, .int t_ladder_hidden])), (a_t_ladder_keys, .inl (y 0, 24, .inl t_ladder_keys)), (a_t_ladder_towers, .inl (y 0, 24, .inl t_ladder_towers))] := hD
  refine lv_pop hx hb dX6_spansTo_7 rfl ?_
  refine lv_aload_n hx hb dX6_spansTo_8 rfl (lv_at hl 0 rfl) ?_
  refine va_get (D := D) (ci := 10) (v := .int t_spanned_4) (C := RX6) (T := TX6) (N := 6) hx hb hts iX6_spansTo_X6 hown hK hP 0 rfl rfl 5 (by decide) (hts (.fieldLink RX6 24 "SkipArchive$Search" "spanned" "I") (List.mem_of_getElem? (i := 1) rfl)) (fun _ h9 => h9) rfl dX6_spansTo_9 ?_
  obtain ⟨e0_12, e1_12, e2_12, e3_12, e4_12, e5_12⟩ := inj6 hF
  rw [← e0_12, ← e1_12, ← e2_12, ← e3_12, ← e4_12, ← e5_12] at hQ0
  rw [hQ0]
  exact ret_i hx hb hr hlocks hAe hK hP hD hS [0, 1, 2, 3] rfl rfl dX6_spansTo_12
def F_X6_stepsBackFrom_25 (fl : Nat) (t_ladder_size : Int32) (t_ladder_hidden : Int32) (t_ladder_keys : Nat → Int32) (t_ladder_towers : Nat → Int32) : Nat → Int32 → Int32 → Int32 → Int32 → Int32 → Option (Int32)
  | 0, _, _, _, _, _ => none
  | n + 1, x1, x2, x3, x4, x5 => if x3 = (-1 : Int32) then (if x4 = x2 then (some x5) else (if (1000 : Int32) ≤ x5 then (some x5) else (bn (F_X3_usedAbove fl t_ladder_hidden x4) fun r_50b => if x3 = (-1 : Int32) then (F_X6_stepsBackFrom_25 fl t_ladder_size t_ladder_hidden t_ladder_keys t_ladder_towers n x1 x2 x3 r_50b (x5 + (1 : Int32))) else (bn (F_X3_hasRung fl t_ladder_size t_ladder_towers x3 r_50b) fun r_67b => if r_67b = 0 then (bn (F_X3_previousOn fl t_ladder_size t_ladder_towers x4 x3) fun r_87b => F_X6_stepsBackFrom_25 fl t_ladder_size t_ladder_hidden t_ladder_keys t_ladder_towers n x1 x2 r_87b x4 (x5 + (1 : Int32))) else (F_X6_stepsBackFrom_25 fl t_ladder_size t_ladder_hidden t_ladder_keys t_ladder_towers n x1 x2 x3 r_50b (x5 + (1 : Int32))))))) else (if (1000 : Int32) ≤ x5 then (some x5) else (bn (F_X3_usedAbove fl t_ladder_hidden x4) fun r_50 => if x3 = (-1 : Int32) then (F_X6_stepsBackFrom_25 fl t_ladder_size t_ladder_hidden t_ladder_keys t_ladder_towers n x1 x2 x3 r_50 (x5 + (1 : Int32))) else (bn (F_X3_hasRung fl t_ladder_size t_ladder_towers x3 r_50) fun r_67 => if r_67 = 0 then (bn (F_X3_previousOn fl t_ladder_size t_ladder_towers x4 x3) fun r_87 => F_X6_stepsBackFrom_25 fl t_ladder_size t_ladder_hidden t_ladder_keys t_ladder_towers n x1 x2 r_87 x4 (x5 + (1 : Int32))) else (F_X6_stepsBackFrom_25 fl t_ladder_size t_ladder_hidden t_ladder_keys t_ladder_towers n x1 x2 x3 r_50 (x5 + (1 : Int32))))))
def F_X6_stepsBackFrom (fl : Nat) (t_ladder_size : Int32) (t_ladder_hidden : Int32) (t_ladder_keys : Nat → Int32) (t_ladder_towers : Nat → Int32) (p1 : Int32) : Option (Int32) := bn (F_X3_beginning fl t_ladder_size t_ladder_hidden t_ladder_towers) fun r_4 => bn (F_X3_lowerKeys fl t_ladder_size t_ladder_keys p1) fun r_13 => F_X6_stepsBackFrom_25 fl t_ladder_size t_ladder_hidden t_ladder_keys t_ladder_towers fl p1 r_4 (r_13 - (1 : Int32)) (0 : Int32) (0 : Int32)
theorem iX6_stepsBackFrom_X6 : ∀ w ∈ u_ws RX6 TX6 6, w ∈ wsX6_stepsBackFrom := fun w h => List.mem_cons_of_mem _ (List.mem_append_left _ (List.mem_append_left _ (List.mem_append_right _ h)))
set_option maxHeartbeats 4000000 in
set_option maxRecDepth 100000 in
theorem c_X6_stepsBackFrom (l : Launch) (D : va_G) (y : Nat → ClassId) (fl : Nat) (a_t : Nat) (a_t_ladder : Nat) (a_t_ladder_keys : Nat) (a_t_ladder_weights : Nat) (a_t_ladder_towers : Nat) (a_t_ladder_coin : Nat) (t_place : Int32) (t_level : Int32) (t_gone : Int32) (t_fallen : Int32) (t_spanned : Int32) (t_ladder_size : Int32) (t_ladder_hidden : Int32) (t_ladder_keys : Nat → Int32) (t_ladder_towers : Nat → Int32) (p1 : Int32) (r : Int32) (hF : F_X6_stepsBackFrom fl t_ladder_size t_ladder_hidden t_ladder_keys t_ladder_towers p1 = some r) : Met l yX6_stepsBackFrom wsX6_stepsBackFrom (rmq 4 84) (rdP D y [(a_t, .inr (10, [.ref a_t_ladder, .int t_place, .int t_level, .int t_gone, .int t_fallen, .int t_spanned])), (a_t_ladder, .inr (7, [.ref a_t_ladder_keys, .ref a_t_ladder_weights, .ref a_t_ladder_towers, .ref a_t_ladder_coin, .int t_ladder_size, .int t_ladder_hidden])), (a_t_ladder_keys, .inl (y 0, 24, .inl t_ladder_keys)), (a_t_ladder_towers, .inl (y 0, 24, .inl t_ladder_towers))] [.ref a_t, .int p1]) (QcRead r) 0 0 (fun _ => False) := by
  refine Met.ofW (cc := cX6_stepsBackFrom) (maxL := 7) (ret := (some .int)) (by decide) rfl ?_
  intro p e s m args below meth c s₁ B hml hv
  obtain ⟨hav, hP, hK⟩ := hv
  have hx := B.exec
  have hb := B.bytes
  have hr := B.returns
  have hts := atoms_spec (ws := wsX6_stepsBackFrom) B.pre
  have hown : s.vm.findClass RX6 = some m.cls := findClass_of_methodNamed B.named
  have hlocks := B.notSynchronized
  refine W_q (R1 := (rmq 4 84)) rfl (fun Q0 hQ0 => ?_)
  unfold F_X6_stepsBackFrom at hF
  have k_25 : ∀ (n : Nat) (x1 : Int32) (x2 : Int32) (x3 : Int32) (x4 : Int32) (x5 : Int32), F_X6_stepsBackFrom_25 fl t_ladder_size t_ladder_hidden t_ladder_keys t_ladder_towers n x1 x2 x3 x4 x5 = some r → ∀ (ls : Array Slot), lv_has ls 7 [(0, .ref a_t), (1, .int x1), (2, .int x2), (3, .int x3), (4, .int x4), (5, .int x5)] → W p l e (rmq 4 84) s m args below meth c s.heap [] 0 0 Q0 (F0 m 25 ls []) := by
    intro n
    induction n with
    | zero => intro x1 x2 x3 x4 x5 hF; rw [F_X6_stepsBackFrom_25] at hF; cases hF
    | succ n ih =>
      intro x1 x2 x3 x4 x5 hF ls hl
      rw [F_X6_stepsBackFrom_25] at hF
      refine lv_iload_n hx hb dX6_stepsBackFrom_25 rfl (lv_at hl 3 rfl) ?_
      refine lv_iconst (v := -1) hx hb dX6_stepsBackFrom_26 (by decide) ?_
      refine lv_icmp_ne (tgt := 36) hx hb dX6_stepsBackFrom_27 (by decide) (fun c_27 => ?_) (fun c_27 => ?_)
      · have hF := iff_ hF c_27
        refine lv_iload hx hb dX6_stepsBackFrom_36 (lv_at hl 5 rfl) ?_
        refine lv_sipush (v := 1000) hx hb dX6_stepsBackFrom_38 (by decide) ?_
        refine lv_icmp_ge (tgt := 97) hx hb dX6_stepsBackFrom_41 (by decide) (fun c_41 => ?_) (fun c_41 => ?_)
        · have hF := ift hF c_41
          refine lv_iload hx hb dX6_stepsBackFrom_97 (lv_at hl 5 rfl) ?_
          obtain e0_99 := inj1 hF
          rw [← e0_99] at hQ0
          rw [hQ0]
          exact W.iret (v := x5) hx hb hr (fun t ht hW => ⟨rfl, ht⟩) (fun _ h => nomatch h) dX6_stepsBackFrom_99
        · have hF := iff_ hF c_41
          refine lv_aload_n hx hb dX6_stepsBackFrom_44 rfl (lv_at hl 0 rfl) ?_
          refine va_get (D := D) (ci := 10) (v := .ref a_t_ladder) (C := RX6) (T := TX6) (N := 6) hx hb hts iX6_stepsBackFrom_X6 hown hK hP 0 rfl rfl 0 (by decide) (hts (.fieldLink RX6 27 "SkipArchive$Search" "ladder" "LSkipArchive$Ladder;") (List.mem_of_getElem? (i := 1) rfl)) (fun _ h9 => h9) rfl dX6_stepsBackFrom_45 ?_
          refine lv_iload hx hb dX6_stepsBackFrom_48 (lv_at hl 4 rfl) ?_
          obtain ⟨r_50, hq_50, hF⟩ := bn_i hF
          refine cr_V (As := [.int x4]) (rest := []) ⟨hx, hb, hml, hown, hts⟩ (c_X3_usedAbove l D y fl a_t_ladder a_t_ladder_keys a_t_ladder_weights a_t_ladder_towers a_t_ladder_coin t_ladder_size t_ladder_hidden x4 r_50 hq_50) (cwV 1 hts gX6_stepsBackFrom_X3_usedAbove rfl rfl rfl (by decide +kernel) ⟨Nat.le_of_ble_eq_true rfl, Nat.le_of_ble_eq_true rfl⟩) hK hP [1] rfl rfl rfl rfl hl.1 rfl (Nat.le_of_ble_eq_true rfl) dX6_stepsBackFrom_50 ⟨Nat.le_of_ble_eq_true rfl, Nat.le_of_ble_eq_true rfl⟩ ?_
          refine lv_istore (lv' := [(6, .int r_50), (0, .ref a_t), (1, .int x1), (2, .int x2), (3, .int x3), (4, .int x4), (5, .int x5)]) hx hb dX6_stepsBackFrom_53 hl (by decide) rfl (fun ls hl => ?_)
          refine lv_iload_n hx hb dX6_stepsBackFrom_55 rfl (lv_at hl 4 rfl) ?_
          refine lv_iconst (v := -1) hx hb dX6_stepsBackFrom_56 (by decide) ?_
          refine lv_icmp_eq (tgt := 73) hx hb dX6_stepsBackFrom_57 (by decide) (fun c_57 => ?_) (fun c_57 => ?_)
          · have hF := ift hF c_57
            refine lv_iload hx hb dX6_stepsBackFrom_73 (lv_at hl 0 rfl) ?_
            refine lv_istore (lv' := [(4, .int r_50), (6, .int r_50), (0, .ref a_t), (1, .int x1), (2, .int x2), (3, .int x3), (5, .int x5)]) hx hb dX6_stepsBackFrom_75 hl (by decide) rfl (fun ls hl => ?_)
            refine lv_goto (tgt := 91) hx hb dX6_stepsBackFrom_77 (by decide) ?_
            refine lv_iinc (v := x5 + (1 : Int32)) (lv' := [(5, .int (x5 + (1 : Int32))), (4, .int r_50), (6, .int r_50), (0, .ref a_t), (1, .int x1), (2, .int x2), (3, .int x3)]) hx hb dX6_stepsBackFrom_91 hl (k := 6) rfl rfl (by decide) rfl (fun ls hl => ?_)
            refine lv_goto (tgt := 25) hx hb dX6_stepsBackFrom_94 (by decide) ?_
            exact ih x1 x2 x3 r_50 (x5 + (1 : Int32)) hF ls (lv_sub hl [3, 4, 5, 6, 1, 0] rfl)
          · have hF := iff_ hF c_57
            refine lv_aload_n hx hb dX6_stepsBackFrom_60 rfl (lv_at hl 1 rfl) ?_
            refine va_get (D := D) (ci := 10) (v := .ref a_t_ladder) (C := RX6) (T := TX6) (N := 6) hx hb hts iX6_stepsBackFrom_X6 hown hK hP 0 rfl rfl 0 (by decide) (hts (.fieldLink RX6 27 "SkipArchive$Search" "ladder" "LSkipArchive$Ladder;") (List.mem_of_getElem? (i := 1) rfl)) (fun _ h9 => h9) rfl dX6_stepsBackFrom_61 ?_
            refine lv_iload_n hx hb dX6_stepsBackFrom_64 rfl (lv_at hl 4 rfl) ?_
            refine lv_iload hx hb dX6_stepsBackFrom_65 (lv_at hl 0 rfl) ?_
            obtain ⟨r_67, hq_67, hF⟩ := bn_i hF
            refine cr_V (As := [.int x3, .int r_50]) (rest := []) ⟨hx, hb, hml, hown, hts⟩ (c_X3_hasRung l D y fl a_t_ladder a_t_ladder_keys a_t_ladder_weights a_t_ladder_towers a_t_ladder_coin t_ladder_size t_ladder_hidden t_ladder_towers x3 r_50 r_67 hq_67) (cwV 2 hts gX6_stepsBackFrom_X3_hasRung rfl rfl rfl (by decide +kernel) ⟨Nat.le_of_ble_eq_true rfl, Nat.le_of_ble_eq_true rfl⟩) hK hP [1, 3] rfl rfl rfl rfl hl.1 rfl (Nat.le_of_ble_eq_true rfl) dX6_stepsBackFrom_67 ⟨Nat.le_of_ble_eq_true rfl, Nat.le_of_ble_eq_true rfl⟩ ?_
            refine lv_if_eq (tgt := 80) hx hb dX6_stepsBackFrom_70 (by decide) (fun c_70 => ?_) (fun c_70 => ?_)
            · have hF := ift hF c_70
              refine lv_aload_n hx hb dX6_stepsBackFrom_80 rfl (lv_at hl 1 rfl) ?_
              refine va_get (D := D) (ci := 10) (v := .ref a_t_ladder) (C := RX6) (T := TX6) (N := 6) hx hb hts iX6_stepsBackFrom_X6 hown hK hP 0 rfl rfl 0 (by decide) (hts (.fieldLink RX6 27 "SkipArchive$Search" "ladder" "LSkipArchive$Ladder;") (List.mem_of_getElem? (i := 1) rfl)) (fun _ h9 => h9) rfl dX6_stepsBackFrom_81 ?_
              refine lv_iload hx hb dX6_stepsBackFrom_84 (lv_at hl 5 rfl) ?_
              refine lv_iload_n hx hb dX6_stepsBackFrom_86 rfl (lv_at hl 4 rfl) ?_
              obtain ⟨r_87, hq_87, hF⟩ := bn_i hF
              refine cr_V (As := [.int x4, .int x3]) (rest := []) ⟨hx, hb, hml, hown, hts⟩ (c_X3_previousOn l D y fl a_t_ladder a_t_ladder_keys a_t_ladder_weights a_t_ladder_towers a_t_ladder_coin t_ladder_size t_ladder_hidden t_ladder_towers x4 x3 r_87 hq_87) (cwV 2 hts gX6_stepsBackFrom_X3_previousOn rfl rfl rfl (by decide +kernel) ⟨Nat.le_of_ble_eq_true rfl, Nat.le_of_ble_eq_true rfl⟩) hK hP [1, 3] rfl rfl rfl rfl hl.1 rfl (Nat.le_of_ble_eq_true rfl) dX6_stepsBackFrom_87 ⟨Nat.le_of_ble_eq_true rfl, Nat.le_of_ble_eq_true rfl⟩ ?_
              refine lv_istore_n (lv' := [(3, .int r_87), (6, .int r_50), (0, .ref a_t), (1, .int x1), (2, .int x2), (4, .int x4), (5, .int x5)]) hx hb dX6_stepsBackFrom_90 rfl hl (by decide) rfl (fun ls hl => ?_)
              refine lv_iinc (v := x5 + (1 : Int32)) (lv' := [(5, .int (x5 + (1 : Int32))), (3, .int r_87), (6, .int r_50), (0, .ref a_t), (1, .int x1), (2, .int x2), (4, .int x4)]) hx hb dX6_stepsBackFrom_91 hl (k := 6) rfl rfl (by decide) rfl (fun ls hl => ?_)
              refine lv_goto (tgt := 25) hx hb dX6_stepsBackFrom_94 (by decide) ?_
              exact ih x1 x2 r_87 x4 (x5 + (1 : Int32)) hF ls (lv_sub hl [3, 4, 5, 1, 6, 0] rfl)
            · have hF := iff_ hF c_70
              refine lv_iload hx hb dX6_stepsBackFrom_73 (lv_at hl 0 rfl) ?_
              refine lv_istore (lv' := [(4, .int r_50), (6, .int r_50), (0, .ref a_t), (1, .int x1), (2, .int x2), (3, .int x3), (5, .int x5)]) hx hb dX6_stepsBackFrom_75 hl (by decide) rfl (fun ls hl => ?_)
              refine lv_goto (tgt := 91) hx hb dX6_stepsBackFrom_77 (by decide) ?_
              refine lv_iinc (v := x5 + (1 : Int32)) (lv' := [(5, .int (x5 + (1 : Int32))), (4, .int r_50), (6, .int r_50), (0, .ref a_t), (1, .int x1), (2, .int x2), (3, .int x3)]) hx hb dX6_stepsBackFrom_91 hl (k := 6) rfl rfl (by decide) rfl (fun ls hl => ?_)
              refine lv_goto (tgt := 25) hx hb dX6_stepsBackFrom_94 (by decide) ?_
              exact ih x1 x2 x3 r_50 (x5 + (1 : Int32)) hF ls (lv_sub hl [3, 4, 5, 6, 1, 0] rfl)
      · have hF := ift hF c_27
        refine lv_iload hx hb dX6_stepsBackFrom_30 (lv_at hl 4 rfl) ?_
        refine lv_iload_n hx hb dX6_stepsBackFrom_32 rfl (lv_at hl 2 rfl) ?_
        refine lv_icmp_eq (tgt := 97) hx hb dX6_stepsBackFrom_33 (by decide) (fun c_33 => ?_) (fun c_33 => ?_)
        · have hF := ift hF c_33
          refine lv_iload hx hb dX6_stepsBackFrom_97 (lv_at hl 5 rfl) ?_
          obtain e0_99 := inj1 hF
          rw [← e0_99] at hQ0
          rw [hQ0]
          exact W.iret (v := x5) hx hb hr (fun t ht hW => ⟨rfl, ht⟩) (fun _ h => nomatch h) dX6_stepsBackFrom_99
        · have hF := iff_ hF c_33
          refine lv_iload hx hb dX6_stepsBackFrom_36 (lv_at hl 5 rfl) ?_
          refine lv_sipush (v := 1000) hx hb dX6_stepsBackFrom_38 (by decide) ?_
          refine lv_icmp_ge (tgt := 97) hx hb dX6_stepsBackFrom_41 (by decide) (fun c_41b => ?_) (fun c_41b => ?_)
          · have hF := ift hF c_41b
            refine lv_iload hx hb dX6_stepsBackFrom_97 (lv_at hl 5 rfl) ?_
            obtain e0_99 := inj1 hF
            rw [← e0_99] at hQ0
            rw [hQ0]
            exact W.iret (v := x5) hx hb hr (fun t ht hW => ⟨rfl, ht⟩) (fun _ h => nomatch h) dX6_stepsBackFrom_99
          · have hF := iff_ hF c_41b
            refine lv_aload_n hx hb dX6_stepsBackFrom_44 rfl (lv_at hl 0 rfl) ?_
            refine va_get (D := D) (ci := 10) (v := .ref a_t_ladder) (C := RX6) (T := TX6) (N := 6) hx hb hts iX6_stepsBackFrom_X6 hown hK hP 0 rfl rfl 0 (by decide) (hts (.fieldLink RX6 27 "SkipArchive$Search" "ladder" "LSkipArchive$Ladder;") (List.mem_of_getElem? (i := 1) rfl)) (fun _ h9 => h9) rfl dX6_stepsBackFrom_45 ?_
            refine lv_iload hx hb dX6_stepsBackFrom_48 (lv_at hl 4 rfl) ?_
            obtain ⟨r_50b, hq_50b, hF⟩ := bn_i hF
            refine cr_V (As := [.int x4]) (rest := []) ⟨hx, hb, hml, hown, hts⟩ (c_X3_usedAbove l D y fl a_t_ladder a_t_ladder_keys a_t_ladder_weights a_t_ladder_towers a_t_ladder_coin t_ladder_size t_ladder_hidden x4 r_50b hq_50b) (cwV 1 hts gX6_stepsBackFrom_X3_usedAbove rfl rfl rfl (by decide +kernel) ⟨Nat.le_of_ble_eq_true rfl, Nat.le_of_ble_eq_true rfl⟩) hK hP [1] rfl rfl rfl rfl hl.1 rfl (Nat.le_of_ble_eq_true rfl) dX6_stepsBackFrom_50 ⟨Nat.le_of_ble_eq_true rfl, Nat.le_of_ble_eq_true rfl⟩ ?_
            refine lv_istore (lv' := [(6, .int r_50b), (0, .ref a_t), (1, .int x1), (2, .int x2), (3, .int x3), (4, .int x4), (5, .int x5)]) hx hb dX6_stepsBackFrom_53 hl (by decide) rfl (fun ls hl => ?_)
            refine lv_iload_n hx hb dX6_stepsBackFrom_55 rfl (lv_at hl 4 rfl) ?_
            refine lv_iconst (v := -1) hx hb dX6_stepsBackFrom_56 (by decide) ?_
            refine lv_icmp_eq (tgt := 73) hx hb dX6_stepsBackFrom_57 (by decide) (fun c_57b => ?_) (fun c_57b => ?_)
            · have hF := ift hF c_57b
              refine lv_iload hx hb dX6_stepsBackFrom_73 (lv_at hl 0 rfl) ?_
              refine lv_istore (lv' := [(4, .int r_50b), (6, .int r_50b), (0, .ref a_t), (1, .int x1), (2, .int x2), (3, .int x3), (5, .int x5)]) hx hb dX6_stepsBackFrom_75 hl (by decide) rfl (fun ls hl => ?_)
              refine lv_goto (tgt := 91) hx hb dX6_stepsBackFrom_77 (by decide) ?_
              refine lv_iinc (v := x5 + (1 : Int32)) (lv' := [(5, .int (x5 + (1 : Int32))), (4, .int r_50b), (6, .int r_50b), (0, .ref a_t), (1, .int x1), (2, .int x2), (3, .int x3)]) hx hb dX6_stepsBackFrom_91 hl (k := 6) rfl rfl (by decide) rfl (fun ls hl => ?_)
              refine lv_goto (tgt := 25) hx hb dX6_stepsBackFrom_94 (by decide) ?_
              exact ih x1 x2 x3 r_50b (x5 + (1 : Int32)) hF ls (lv_sub hl [3, 4, 5, 6, 1, 0] rfl)
            · have hF := iff_ hF c_57b
              refine lv_aload_n hx hb dX6_stepsBackFrom_60 rfl (lv_at hl 1 rfl) ?_
              refine va_get (D := D) (ci := 10) (v := .ref a_t_ladder) (C := RX6) (T := TX6) (N := 6) hx hb hts iX6_stepsBackFrom_X6 hown hK hP 0 rfl rfl 0 (by decide) (hts (.fieldLink RX6 27 "SkipArchive$Search" "ladder" "LSkipArchive$Ladder;") (List.mem_of_getElem? (i := 1) rfl)) (fun _ h9 => h9) rfl dX6_stepsBackFrom_61 ?_
              refine lv_iload_n hx hb dX6_stepsBackFrom_64 rfl (lv_at hl 4 rfl) ?_
              refine lv_iload hx hb dX6_stepsBackFrom_65 (lv_at hl 0 rfl) ?_
              obtain ⟨r_67b, hq_67b, hF⟩ := bn_i hF
              refine cr_V (As := [.int x3, .int r_50b]) (rest := []) ⟨hx, hb, hml, hown, hts⟩ (c_X3_hasRung l D y fl a_t_ladder a_t_ladder_keys a_t_ladder_weights a_t_ladder_towers a_t_ladder_coin t_ladder_size t_ladder_hidden t_ladder_towers x3 r_50b r_67b hq_67b) (cwV 2 hts gX6_stepsBackFrom_X3_hasRung rfl rfl rfl (by decide +kernel) ⟨Nat.le_of_ble_eq_true rfl, Nat.le_of_ble_eq_true rfl⟩) hK hP [1, 3] rfl rfl rfl rfl hl.1 rfl (Nat.le_of_ble_eq_true rfl) dX6_stepsBackFrom_67 ⟨Nat.le_of_ble_eq_true rfl, Nat.le_of_ble_eq_true rfl⟩ ?_
              refine lv_if_eq (tgt := 80) hx hb dX6_stepsBackFrom_70 (by decide) (fun c_70b => ?_) (fun c_70b => ?_)
              · have hF := ift hF c_70b
                refine lv_aload_n hx hb dX6_stepsBackFrom_80 rfl (lv_at hl 1 rfl) ?_
                refine va_get (D := D) (ci := 10) (v := .ref a_t_ladder) (C := RX6) (T := TX6) (N := 6) hx hb hts iX6_stepsBackFrom_X6 hown hK hP 0 rfl rfl 0 (by decide) (hts (.fieldLink RX6 27 "SkipArchive$Search" "ladder" "LSkipArchive$Ladder;") (List.mem_of_getElem? (i := 1) rfl)) (fun _ h9 => h9) rfl dX6_stepsBackFrom_81 ?_
                refine lv_iload hx hb dX6_stepsBackFrom_84 (lv_at hl 5 rfl) ?_
                refine lv_iload_n hx hb dX6_stepsBackFrom_86 rfl (lv_at hl 4 rfl) ?_
                obtain ⟨r_87b, hq_87b, hF⟩ := bn_i hF
                refine cr_V (As := [.int x4, .int x3]) (rest := []) ⟨hx, hb, hml, hown, hts⟩ (c_X3_previousOn l D y fl a_t_ladder a_t_ladder_keys a_t_ladder_weights a_t_ladder_towers a_t_ladder_coin t_ladder_size t_ladder_hidden t_ladder_towers x4 x3 r_87b hq_87b) (cwV 2 hts gX6_stepsBackFrom_X3_previousOn rfl rfl rfl (by decide +kernel) ⟨Nat.le_of_ble_eq_true rfl, Nat.le_of_ble_eq_true rfl⟩) hK hP [1, 3] rfl rfl rfl rfl hl.1 rfl (Nat.le_of_ble_eq_true rfl) dX6_stepsBackFrom_87 ⟨Nat.le_of_ble_eq_true rfl, Nat.le_of_ble_eq_true rfl⟩ ?_
                refine lv_istore_n (lv' := [(3, .int r_87b), (6, .int r_50b), (0, .ref a_t), (1, .int x1), (2, .int x2), (4, .int x4), (5, .int x5)]) hx hb dX6_stepsBackFrom_90 rfl hl (by decide) rfl (fun ls hl => ?_)
                refine lv_iinc (v := x5 + (1 : Int32)) (lv' := [(5, .int (x5 + (1 : Int32))), (3, .int r_87b), (6, .int r_50b), (0, .ref a_t), (1, .int x1), (2, .int x2), (4, .int x4)]) hx hb dX6_stepsBackFrom_91 hl (k := 6) rfl rfl (by decide) rfl (fun ls hl => ?_)
                refine lv_goto (tgt := 25) hx hb dX6_stepsBackFrom_94 (by decide) ?_
                exact ih x1 x2 r_87b x4 (x5 + (1 : Int32)) hF ls (lv_sub hl [3, 4, 5, 1, 6, 0] rfl)
              · have hF := iff_ hF c_70b
                refine lv_iload hx hb dX6_stepsBackFrom_73 (lv_at hl 0 rfl) ?_
                refine lv_istore (lv' := [(4, .int r_50b), (6, .int r_50b), (0, .ref a_t), (1, .int x1), (2, .int x2), (3, .int x3), (5, .int x5)]) hx hb dX6_stepsBackFrom_75 hl (by decide) rfl (fun ls hl => ?_)
                refine lv_goto (tgt := 91) hx hb dX6_stepsBackFrom_77 (by decide) ?_
                refine lv_iinc (v := x5 + (1 : Int32)) (lv' := [(5, .int (x5 + (1 : Int32))), (4, .int r_50b), (6, .int r_50b), (0, .ref a_t), (1, .int x1), (2, .int x2), (3, .int x3)]) hx hb dX6_stepsBackFrom_91 hl (k := 6) rfl rfl (by decide) rfl (fun ls hl => ?_)
                refine lv_goto (tgt := 25) hx hb dX6_stepsBackFrom_94 (by decide) ?_
                exact ih x1 x2 x3 r_50b (x5 + (1 : Int32)) hF ls (lv_sub hl [3, 4, 5, 6, 1, 0] rfl)
  refine W_entry hav (Nat.le_of_ble_eq_true rfl) (fun ls hl => ?_)
  have hl : lv_has ls 7 [(0, .ref a_t), (1, .int p1)] := hl
  refine lv_aload_n hx hb dX6_stepsBackFrom_0 rfl (lv_at hl 0 rfl) ?_
  refine va_get (D := D) (ci := 10) (v := .ref a_t_ladder) (C := RX6) (T := TX6) (N := 6) hx hb hts iX6_stepsBackFrom_X6 hown hK hP 0 rfl rfl 0 (by decide) (hts (.fieldLink RX6 27 "SkipArchive$Search" "ladder" "LSkipArchive$Ladder;") (List.mem_of_getElem? (i := 1) rfl)) (fun _ h9 => h9) rfl dX6_stepsBackFrom_1 ?_
  obtain ⟨r_4, hq_4, hF⟩ := bn_i hF
  refine cr_V (As := []) (rest := []) ⟨hx, hb, hml, hown, hts⟩ (c_X3_beginning l D y fl a_t_ladder a_t_ladder_keys a_t_ladder_weights a_t_ladder_towers a_t_ladder_coin t_ladder_size t_ladder_hidden t_ladder_towers r_4 hq_4) (cwV 0 hts gX6_stepsBackFrom_X3_beginning rfl rfl rfl (by decide +kernel) ⟨Nat.le_of_ble_eq_true rfl, Nat.le_of_ble_eq_true rfl⟩) hK hP [1, 3] rfl rfl rfl rfl hl.1 rfl (Nat.le_of_ble_eq_true rfl) dX6_stepsBackFrom_4 ⟨Nat.le_of_ble_eq_true rfl, Nat.le_of_ble_eq_true rfl⟩ ?_
  refine lv_istore_n (lv' := [(2, .int r_4), (0, .ref a_t), (1, .int p1)]) hx hb dX6_stepsBackFrom_7 rfl hl (by decide) rfl (fun ls hl => ?_)
  refine lv_aload_n hx hb dX6_stepsBackFrom_8 rfl (lv_at hl 1 rfl) ?_
  refine va_get (D := D) (ci := 10) (v := .ref a_t_ladder) (C := RX6) (T := TX6) (N := 6) hx hb hts iX6_stepsBackFrom_X6 hown hK hP 0 rfl rfl 0 (by decide) (hts (.fieldLink RX6 27 "SkipArchive$Search" "ladder" "LSkipArchive$Ladder;") (List.mem_of_getElem? (i := 1) rfl)) (fun _ h9 => h9) rfl dX6_stepsBackFrom_9 ?_
  refine lv_iload_n hx hb dX6_stepsBackFrom_12 rfl (lv_at hl 2 rfl) ?_
  obtain ⟨r_13, hq_13, hF⟩ := bn_i hF
  refine cr_V (As := [.int p1]) (rest := []) ⟨hx, hb, hml, hown, hts⟩ (c_X3_lowerKeys l D y fl a_t_ladder a_t_ladder_keys a_t_ladder_weights a_t_ladder_towers a_t_ladder_coin t_ladder_size t_ladder_hidden t_ladder_keys p1 r_13 hq_13) (cwV 1 hts gX6_stepsBackFrom_X3_lowerKeys rfl rfl rfl (by decide +kernel) ⟨Nat.le_of_ble_eq_true rfl, Nat.le_of_ble_eq_true rfl⟩) hK hP [1, 2] rfl rfl rfl rfl hl.1 rfl (Nat.le_of_ble_eq_true rfl) dX6_stepsBackFrom_13 ⟨Nat.le_of_ble_eq_true rfl, Nat.le_of_ble_eq_true rfl⟩ ?_
  refine lv_iconst (v := 1) hx hb dX6_stepsBackFrom_16 (by decide) ?_
  refine lv_isub hx hb dX6_stepsBackFrom_17 ?_
  refine lv_istore_n (lv' := [(3, .int (r_13 - (1 : Int32))), (2, .int r_4), (0, .ref a_t), (1, .int p1)]) hx hb dX6_stepsBackFrom_18 rfl hl (by decide) rfl (fun ls hl => ?_)
  refine lv_iconst (v := 0) hx hb dX6_stepsBackFrom_19 (by decide) ?_
  refine lv_istore (lv' := [(4, .int (0 : Int32)), (3, .int (r_13 - (1 : Int32))), (2, .int r_4), (0, .ref a_t), (1, .int p1)]) hx hb dX6_stepsBackFrom_20 hl (by decide) rfl (fun ls hl => ?_)
  refine lv_iconst (v := 0) hx hb dX6_stepsBackFrom_22 (by decide) ?_
  refine lv_istore (lv' := [(5, .int (0 : Int32)), (4, .int (0 : Int32)), (3, .int (r_13 - (1 : Int32))), (2, .int r_4), (0, .ref a_t), (1, .int p1)]) hx hb dX6_stepsBackFrom_23 hl (by decide) rfl (fun ls hl => ?_)
  exact k_25 fl p1 r_4 (r_13 - (1 : Int32)) (0 : Int32) (0 : Int32) hF ls (lv_sub hl [4, 5, 3, 2, 1, 0] rfl)
