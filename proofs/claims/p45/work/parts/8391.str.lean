/-! String's and StringBuilder's methods over a given String -/
theorem sb_catS {t tt : Nat → Nat} {n sn : Nat} {b b2 : Nat → Int32} (hL : sb_Lat t n b) (hb : ∀ j, j < n → b2 j = b j) (hB : ∀ j, j < sn → tt j < 256) : sb_Lat (sb_cat t n tt) (n + sn) (va_cpy (fun j => sb_b (tt j)) b2 0 n sn) := sb_latPut hL (fun j hj => by
    unfold va_cpy
    rw [if_neg (by omega)]; exact hb j hj) (fun i hi => ⟨hB i hi, by
    unfold va_cpy
    rw [if_pos (by omega), show 0 + (n + i - n) = i by omega]⟩)
theorem sb_fitS {tt : Nat → Nat} {n sn : Nat} {b : Nat → Int32} (hf : sb_Fit b) : sb_Fit (va_cpy (fun j => sb_b (tt j)) b 0 n sn) := sb_fitC (fun j => sb_fitB _) hf
set_option maxHeartbeats 4000000 in
set_option maxRecDepth 100000 in
theorem c_J0_coder_7d493 (l : Launch) (D : va_G) (y : Nat → ClassId) (sz : Nat) (sa sn : Nat) (tt : Nat → Nat) : Met l yJ0_coder_7d493 wsJ0_coder_7d493 (rmx 0 0 0 0) (sP D y [] sz [.ref sa] sa sn tt) (wQui (S := Unit) D y 0 (fun _ => True) (fun _ => []) [] sz) 0 0 (va_A [] sz) := by
  refine Met.ofW (cc := cJ0_coder_7d493) (maxL := 1) (ret := (some .byte)) (by decide) rfl ?_
  intro p e s mi args below meth c s₁ B hml hv
  obtain ⟨hav, hsz, hP, hK, hD0, hJ, hX⟩ := hv
  have hx := B.exec
  have hb := B.bytes
  have hr := B.returns
  have hts := atoms_spec (ws := wsJ0_coder_7d493) B.pre
  have hown : s.vm.findClass RJ0 = some mi.cls := findClass_of_methodNamed B.named
  have hlocks := B.notSynchronized
  subst hsz
  have hD := hD0.self (sz := s.heap.size)
  obtain ⟨A, hAe⟩ : ∃ A : Nat → Prop, va_A [] s.heap.size = A := ⟨_, rfl⟩
  rw [hAe] at hD
  rw [hAe] at hJ
  rw [hAe] at hX
  have hA : ∀ q, s.heap.size ≤ q → A q := fun q h => by rw [← hAe]; exact Or.inr h
  have hS : va_S A s.heap s.heap [] := va_S.rf
  have hX0 := hX
  obtain ⟨t0, hO, hC0, hV0, hT0, hB0⟩ := hX0
  refine W_q (R1 := (rmx 0 0 0 0)) rfl (fun Q0 hQ0 => ?_)
  refine W_entry hav (Nat.le_of_ble_eq_true rfl) (fun ls hl => ?_)
  have hl : lv_has ls 1 [(0, .ref sa)] := hl
  refine va_gets hx hb hJ.1 hS hown (hts (.fieldLink RJ0 38 "java/lang/String" "COMPACT_STRINGS" "Z") (List.mem_of_getElem? (i := 1) rfl)) (fun _ h9 => h9) dJ0_coder_7d493_0 ?_
  refine lv_if_eq (tgt := 13) hx hb dJ0_coder_7d493_3 (by decide) (fun h9 => absurd h9 (by decide)) (fun _ => ?_)
  refine lv_aload_n hx hb dJ0_coder_7d493_6 rfl (lv_at hl 0 rfl) ?_
  refine vk_getf hx hb hC0 hS hown (hts (.fieldLink RJ0 15 "java/lang/String" "coder" "B") (List.mem_of_getElem? (i := 2) rfl)) (fun _ h9 => h9) dJ0_coder_7d493_7 ?_
  refine lv_goto (tgt := 14) hx hb dJ0_coder_7d493_10 (by decide) ?_
  rw [hQ0]
  exact ret_uz (()) (trivial) hx hb hr (rfl) hlocks hAe hK hP hD hS [] rfl rfl dJ0_coder_7d493_14
set_option maxHeartbeats 4000000 in
set_option maxRecDepth 100000 in
theorem c_J0_isLatin1_aae02 (l : Launch) (D : va_G) (y : Nat → ClassId) (sz : Nat) (sa sn : Nat) (tt : Nat → Nat) : Met l yJ0_isLatin1_aae02 wsJ0_isLatin1_aae02 (rmx 0 0 0 0) (sP D y [] sz [.ref sa] sa sn tt) (wQui (S := Unit) D y 1 (fun _ => True) (fun _ => []) [] sz) 0 0 (va_A [] sz) := by
  refine Met.ofW (cc := cJ0_isLatin1_aae02) (maxL := 1) (ret := (some .boolean)) (by decide) rfl ?_
  intro p e s mi args below meth c s₁ B hml hv
  obtain ⟨hav, hsz, hP, hK, hD0, hJ, hX⟩ := hv
  have hx := B.exec
  have hb := B.bytes
  have hr := B.returns
  have hts := atoms_spec (ws := wsJ0_isLatin1_aae02) B.pre
  have hown : s.vm.findClass RJ0 = some mi.cls := findClass_of_methodNamed B.named
  have hlocks := B.notSynchronized
  subst hsz
  have hD := hD0.self (sz := s.heap.size)
  obtain ⟨A, hAe⟩ : ∃ A : Nat → Prop, va_A [] s.heap.size = A := ⟨_, rfl⟩
  rw [hAe] at hD
  rw [hAe] at hJ
  rw [hAe] at hX
  have hA : ∀ q, s.heap.size ≤ q → A q := fun q h => by rw [← hAe]; exact Or.inr h
  have hS : va_S A s.heap s.heap [] := va_S.rf
  have hX0 := hX
  obtain ⟨t0, hO, hC0, hV0, hT0, hB0⟩ := hX0
  refine W_q (R1 := (rmx 0 0 0 0)) rfl (fun Q0 hQ0 => ?_)
  refine W_entry hav (Nat.le_of_ble_eq_true rfl) (fun ls hl => ?_)
  have hl : lv_has ls 1 [(0, .ref sa)] := hl
  refine va_gets hx hb hJ.1 hS hown (hts (.fieldLink RJ0 38 "java/lang/String" "COMPACT_STRINGS" "Z") (List.mem_of_getElem? (i := 1) rfl)) (fun _ h9 => h9) dJ0_isLatin1_aae02_0 ?_
  refine lv_if_eq (tgt := 17) hx hb dJ0_isLatin1_aae02_3 (by decide) (fun h9 => absurd h9 (by decide)) (fun _ => ?_)
  refine lv_aload_n hx hb dJ0_isLatin1_aae02_6 rfl (lv_at hl 0 rfl) ?_
  refine vk_getf hx hb hC0 hS hown (hts (.fieldLink RJ0 15 "java/lang/String" "coder" "B") (List.mem_of_getElem? (i := 2) rfl)) (fun _ h9 => h9) dJ0_isLatin1_aae02_7 ?_
  refine lv_if_ne (tgt := 17) hx hb dJ0_isLatin1_aae02_10 (by decide) (fun h9 => absurd (rfl) h9) (fun _ => ?_)
  refine lv_iconst (v := 1) hx hb dJ0_isLatin1_aae02_13 (by decide) ?_
  refine lv_goto (tgt := 18) hx hb dJ0_isLatin1_aae02_14 (by decide) ?_
  rw [hQ0]
  exact ret_uz (()) (trivial) hx hb hr (rfl) hlocks hAe hK hP hD hS [] rfl rfl dJ0_isLatin1_aae02_18
set_option maxHeartbeats 4000000 in
set_option maxRecDepth 100000 in
theorem c_J0_length_8abf5 (l : Launch) (D : va_G) (y : Nat → ClassId) (sz : Nat) (sa sn : Nat) (tt : Nat → Nat) : Met l yJ0_length_8abf5 wsJ0_length_8abf5 (rmx 1 40 0 0) (sP D y [] sz [.ref sa] sa sn tt) (wQui (S := Unit) D y (nI sn) (fun _ => True) (fun _ => []) [] sz) 0 0 (va_A [] sz) := by
  refine Met.ofW (cc := cJ0_length_8abf5) (maxL := 1) (ret := (some .int)) (by decide) rfl ?_
  intro p e s mi args below meth c s₁ B hml hv
  obtain ⟨hav, hsz, hP, hK, hD0, hJ, hX⟩ := hv
  have hx := B.exec
  have hb := B.bytes
  have hr := B.returns
  have hts := atoms_spec (ws := wsJ0_length_8abf5) B.pre
  have hown : s.vm.findClass RJ0 = some mi.cls := findClass_of_methodNamed B.named
  have hlocks := B.notSynchronized
  subst hsz
  have hD := hD0.self (sz := s.heap.size)
  obtain ⟨A, hAe⟩ : ∃ A : Nat → Prop, va_A [] s.heap.size = A := ⟨_, rfl⟩
  rw [hAe] at hD
  rw [hAe] at hJ
  rw [hAe] at hX
  have hA : ∀ q, s.heap.size ≤ q → A q := fun q h => by rw [← hAe]; exact Or.inr h
  have hS : va_S A s.heap s.heap [] := va_S.rf
  have hX0 := hX
  obtain ⟨t0, hO, hC0, hV0, hT0, hB0⟩ := hX0
  refine W_q (R1 := (rmx 1 40 0 0)) rfl (fun Q0 hQ0 => ?_)
  refine W_entry hav (Nat.le_of_ble_eq_true rfl) (fun ls hl => ?_)
  have hl : lv_has ls 1 [(0, .ref sa)] := hl
  refine lv_aload_n hx hb dJ0_length_8abf5_0 rfl (lv_at hl 0 rfl) ?_
  refine vk_getf hx hb hV0 hS hown (hts (.fieldLink RJ0 9 "java/lang/String" "value" "[B") (List.mem_of_getElem? (i := 1) rfl)) (fun _ h9 => h9) dJ0_length_8abf5_1 ?_
  refine va_tlen (v := nI sn) hx hb hT0 hS rfl dJ0_length_8abf5_4 ?_
  refine lv_aload_n hx hb dJ0_length_8abf5_5 rfl (lv_at hl 0 rfl) ?_
  refine ct_Vi (As := []) (rest := [.int (nI sn)]) (wr := []) ⟨hx, hb, hml, hown, hts⟩ (c_J0_coder_7d493 l D y s.heap.size sa sn tt) (cwV 0 hts gJ0_length_8abf5_J0_coder_7d493 rfl rfl rfl (by decide +kernel) ⟨(Nat.le_of_ble_eq_true rfl), (Nat.le_of_ble_eq_true rfl)⟩) hK hP hD hS hA hJ hX [] [] rfl rfl rfl rfl (by decide) rfl hl.1 rfl (Nat.le_of_ble_eq_true rfl) dJ0_length_8abf5_6 ⟨(Nat.le_of_ble_eq_true rfl), (Nat.le_of_ble_eq_true rfl)⟩ (fun u1 H locs hu1 hP hD hS => ?_)
  have hP : va_P D vwCl [] H := hP
  have hD : va_D A [] := hD
  refine lv_ishr hx hb dJ0_length_8abf5_9 ?_
  refine s1_is (z := nI sn) (sb_shr0 _) ?_
  rw [hQ0]
  exact ret_ui (()) (trivial) hx hb hr hlocks hAe hK hP hD hS [] rfl rfl dJ0_length_8abf5_10
set_option maxHeartbeats 4000000 in
set_option maxRecDepth 100000 in
theorem c_J0_getBytes_840e7 (l : Launch) (D : va_G) (y : Nat → ClassId) (sz : Nat) (sa sn : Nat) (tt : Nat → Nat) (v m n : Nat) (b : Nat → Int32) (hm : m ≤ 65536) (hn : n + sn ≤ m) : Met l yJ0_getBytes_840e7 wsJ0_getBytes_840e7 (rmx 2 80 0 0) (sP D y [(v, .inl (y 2, m, .inl (b)))] sz [.ref sa, .ref v, .int (nI n), .int 0] sa sn tt) (wQuv (S := Unit) D y (fun _ => True) (fun _ => [(v, .inl (y 2, m, .inl (va_cpy (fun j => sb_b (tt j)) b 0 n sn)))]) [(v, .inl (y 2, m, .inl (b)))] sz) 0 0 (va_A [(v, .inl (y 2, m, .inl (b)))] sz) := by
  refine Met.ofW (cc := cJ0_getBytes_840e7) (maxL := 4) (ret := none) (by decide) rfl ?_
  intro p e s mi args below meth c s₁ B hml hv
  obtain ⟨hav, hsz, hP, hK, hD0, hJ, hX⟩ := hv
  have hx := B.exec
  have hb := B.bytes
  have hr := B.returns
  have hts := atoms_spec (ws := wsJ0_getBytes_840e7) B.pre
  have hown : s.vm.findClass RJ0 = some mi.cls := findClass_of_methodNamed B.named
  have hlocks := B.notSynchronized
  subst hsz
  have hD := hD0.self (sz := s.heap.size)
  obtain ⟨A, hAe⟩ : ∃ A : Nat → Prop, va_A [(v, .inl (y 2, m, .inl (b)))] s.heap.size = A := ⟨_, rfl⟩
  rw [hAe] at hD
  rw [hAe] at hJ
  rw [hAe] at hX
  have hA : ∀ q, s.heap.size ≤ q → A q := fun q h => by rw [← hAe]; exact Or.inr h
  have hS : va_S A s.heap s.heap [] := va_S.rf
  have hX0 := hX
  obtain ⟨t0, hO, hC0, hV0, hT0, hB0⟩ := hX0
  refine W_q (R1 := (rmx 2 80 0 0)) rfl (fun Q0 hQ0 => ?_)
  refine W_entry hav (Nat.le_of_ble_eq_true rfl) (fun ls hl => ?_)
  have hl : lv_has ls 4 [(0, .ref sa), (1, .ref v), (2, .int (nI n)), (3, .int ((0 : Int32)))] := hl
  refine lv_aload_n hx hb dJ0_getBytes_840e7_0 rfl (lv_at hl 0 rfl) ?_
  refine ct_Vi (As := []) (rest := []) (wr := [(v, .inl (y 2, m, .inl (b)))]) ⟨hx, hb, hml, hown, hts⟩ (c_J0_coder_7d493 l D y s.heap.size sa sn tt) (cwV 0 hts gJ0_getBytes_840e7_J0_coder_7d493 rfl rfl rfl (by decide +kernel) ⟨(Nat.le_of_ble_eq_true rfl), (Nat.le_of_ble_eq_true rfl)⟩) hK hP hD hS hA hJ hX [] [0] rfl rfl rfl rfl (by decide) rfl hl.1 rfl (Nat.le_of_ble_eq_true rfl) dJ0_getBytes_840e7_1 ⟨(Nat.le_of_ble_eq_true rfl), (Nat.le_of_ble_eq_true rfl)⟩ (fun u1 H locs hu1 hP hD hS => ?_)
  have hP : va_P D vwCl [(v, .inl (y 2, m, .inl (b)))] H := hP
  have hD : va_D A [(v, .inl (y 2, m, .inl (b)))] := hD
  refine lv_iload_n hx hb dJ0_getBytes_840e7_4 rfl (lv_at hl 3 rfl) ?_
  refine lv_icmp_ne (tgt := 28) hx hb dJ0_getBytes_840e7_5 (by decide) (fun h9 => absurd (rfl) h9) (fun _ => ?_)
  refine lv_aload_n hx hb dJ0_getBytes_840e7_8 rfl (lv_at hl 0 rfl) ?_
  refine vk_getf hx hb hV0 hS hown (hts (.fieldLink RJ0 9 "java/lang/String" "value" "[B") (List.mem_of_getElem? (i := 1) rfl)) (fun _ h9 => h9) dJ0_getBytes_840e7_9 ?_
  refine lv_iconst (v := 0) hx hb dJ0_getBytes_840e7_12 (by decide) ?_
  refine lv_aload_n hx hb dJ0_getBytes_840e7_13 rfl (lv_at hl 1 rfl) ?_
  refine lv_iload_n hx hb dJ0_getBytes_840e7_14 rfl (lv_at hl 2 rfl) ?_
  refine lv_iload_n hx hb dJ0_getBytes_840e7_15 rfl (lv_at hl 3 rfl) ?_
  refine lv_ishl hx hb dJ0_getBytes_840e7_16 ?_
  refine s1_is (z := nI n) (sb_shl0 _) ?_
  refine lv_aload_n hx hb dJ0_getBytes_840e7_17 rfl (lv_at hl 0 rfl) ?_
  refine vk_getf hx hb hV0 hS hown (hts (.fieldLink RJ0 9 "java/lang/String" "value" "[B") (List.mem_of_getElem? (i := 1) rfl)) (fun _ h9 => h9) dJ0_getBytes_840e7_18 ?_
  refine va_tlen (v := nI sn) hx hb hT0 hS rfl dJ0_getBytes_840e7_21 ?_
  refine vk_copyt hx hb (hml.trans hl.1.symm) hown (hts (.methodLink RJ0 212 arraycopyName) (List.mem_of_getElem? (i := 2) rfl)) (hts (.native arraycopyName) (List.mem_of_getElem? (i := 3) rfl)) (hts (.static arraycopyName) (List.mem_of_getElem? (i := 4) rfl)) (hts (.initialized "java/lang/System") (List.mem_of_getElem? (i := 5) rfl)) hK hP hD hS hT0 0 2 rfl rfl (by decide) (nI_pos (by omega)) (nI_pos (by omega)) (by rw [nI_clamp (by omega), sb_cl0]; omega) (by rw [nI_clamp (by omega), nI_clamp (by omega)]; omega) (fun i hi => sb_fitB _) (Nat.le_of_ble_eq_true rfl) (Nat.le_of_ble_eq_true rfl) dJ0_getBytes_840e7_22 (fun H locs hP hD hS => ?_)
  have hP : va_P D vwCl [(v, .inl (y 2, m, .inl (va_cpy (fun j => sb_b (tt j)) b (0 : Int32).toNatClampNeg (nI n).toNatClampNeg (nI sn).toNatClampNeg)))] H := hP
  have hD : va_D A [(v, .inl (y 2, m, .inl (va_cpy (fun j => sb_b (tt j)) b (0 : Int32).toNatClampNeg (nI n).toNatClampNeg (nI sn).toNatClampNeg)))] := hD
  have ec : va_cpy (fun j => sb_b (tt j)) b (0 : Int32).toNatClampNeg (nI n).toNatClampNeg (nI sn).toNatClampNeg = va_cpy (fun j => sb_b (tt j)) b 0 n sn := by rw [sb_cl0, nI_clamp (by omega), nI_clamp (by omega)]
  rw [ec] at hP hD
  refine lv_goto (tgt := 43) hx hb dJ0_getBytes_840e7_25 (by decide) ?_
  rw [hQ0]
  exact ret_uv (()) (trivial) hx hb hr hlocks hAe hK hP hD hS [0] rfl rfl dJ0_getBytes_840e7_43
theorem iJ5_inflateIfNeededFor_a7421_J4 : ∀ w ∈ u_ws RJ4 TJ4 4, w ∈ wsJ5_inflateIfNeededFor_a7421 := fun w h => List.mem_cons_of_mem _ (List.mem_append_left _ (List.mem_append_right _ h))
set_option maxHeartbeats 4000000 in
set_option maxRecDepth 100000 in
theorem c_J5_inflateIfNeededFor_a7421 (l : Launch) (D : va_G) (y : Nat → ClassId) (sz : Nat) (sa sn : Nat) (tt : Nat → Nat) (a v n : Nat) (ml : Int32) : Met l yJ5_inflateIfNeededFor_a7421 wsJ5_inflateIfNeededFor_a7421 (rmx 1 40 0 0) (sP D y [(a, .inr (1, [.ref v, .int 0, .int ml, .int (nI n)]))] sz [.ref a, .ref sa] sa sn tt) (wQuv (S := Unit) D y (fun _ => True) (fun _ => [(a, .inr (1, [.ref v, .int 0, .int ml, .int (nI n)]))]) [(a, .inr (1, [.ref v, .int 0, .int ml, .int (nI n)]))] sz) 0 0 (va_A [(a, .inr (1, [.ref v, .int 0, .int ml, .int (nI n)]))] sz) := by
  refine Met.ofW (cc := cJ5_inflateIfNeededFor_a7421) (maxL := 2) (ret := none) (by decide) rfl ?_
  intro p e s mi args below meth c s₁ B hml hv
  obtain ⟨hav, hsz, hP, hK, hD0, hJ, hX⟩ := hv
  have hx := B.exec
  have hb := B.bytes
  have hr := B.returns
  have hts := atoms_spec (ws := wsJ5_inflateIfNeededFor_a7421) B.pre
  have hown : s.vm.findClass RJ5 = some mi.cls := findClass_of_methodNamed B.named
  have hlocks := B.notSynchronized
  subst hsz
  have hD := hD0.self (sz := s.heap.size)
  obtain ⟨A, hAe⟩ : ∃ A : Nat → Prop, va_A [(a, .inr (1, [.ref v, .int 0, .int ml, .int (nI n)]))] s.heap.size = A := ⟨_, rfl⟩
  rw [hAe] at hD
  rw [hAe] at hJ
  rw [hAe] at hX
  have hA : ∀ q, s.heap.size ≤ q → A q := fun q h => by rw [← hAe]; exact Or.inr h
  have hS : va_S A s.heap s.heap [] := va_S.rf
  have hX0 := hX
  obtain ⟨t0, hO, hC0, hV0, hT0, hB0⟩ := hX0
  refine W_q (R1 := (rmx 1 40 0 0)) rfl (fun Q0 hQ0 => ?_)
  refine W_entry hav (Nat.le_of_ble_eq_true rfl) (fun ls hl => ?_)
  have hl : lv_has ls 2 [(0, .ref a), (1, .ref sa)] := hl
  refine va_gets hx hb hJ.1 hS hown (hts (.fieldLink RJ5 18 "java/lang/String" "COMPACT_STRINGS" "Z") (List.mem_of_getElem? (i := 1) rfl)) (fun _ h9 => h9) dJ5_inflateIfNeededFor_a7421_0 ?_
  refine lv_if_eq (tgt := 21) hx hb dJ5_inflateIfNeededFor_a7421_3 (by decide) (fun h9 => absurd h9 (by decide)) (fun _ => ?_)
  refine lv_aload_n hx hb dJ5_inflateIfNeededFor_a7421_6 rfl (lv_at hl 0 rfl) ?_
  refine va_get (D := D) (ci := 1) (v := .int 0) (C := RJ4) (T := TJ4) (N := 4) hx hb hts iJ5_inflateIfNeededFor_a7421_J4 hown hK hP 0 rfl rfl 1 (by decide) (hts (.fieldLink RJ5 22 "java/lang/AbstractStringBuilder" "coder" "B") (List.mem_of_getElem? (i := 2) rfl)) (fun _ h9 => h9) rfl dJ5_inflateIfNeededFor_a7421_7 ?_
  refine lv_aload_n hx hb dJ5_inflateIfNeededFor_a7421_10 rfl (lv_at hl 1 rfl) ?_
  refine ct_Vi (As := []) (rest := [.int (0)]) (wr := [(a, .inr (1, [.ref v, .int 0, .int ml, .int (nI n)]))]) ⟨hx, hb, hml, hown, hts⟩ (c_J0_coder_7d493 l D y s.heap.size sa sn tt) (cwV 0 hts gJ5_inflateIfNeededFor_a7421_J0_coder_7d493 rfl rfl rfl (by decide +kernel) ⟨(Nat.le_of_ble_eq_true rfl), (Nat.le_of_ble_eq_true rfl)⟩) hK hP hD hS hA hJ hX [] [0] rfl rfl rfl rfl (by decide) rfl hl.1 rfl (Nat.le_of_ble_eq_true rfl) dJ5_inflateIfNeededFor_a7421_11 ⟨(Nat.le_of_ble_eq_true rfl), (Nat.le_of_ble_eq_true rfl)⟩ (fun u1 H locs hu1 hP hD hS => ?_)
  have hP : va_P D vwCl [(a, .inr (1, [.ref v, .int 0, .int ml, .int (nI n)]))] H := hP
  have hD : va_D A [(a, .inr (1, [.ref v, .int 0, .int ml, .int (nI n)]))] := hD
  refine lv_icmp_eq (tgt := 21) hx hb dJ5_inflateIfNeededFor_a7421_14 (by decide) (fun _ => ?_) (fun h9 => absurd (rfl) h9)
  rw [hQ0]
  exact ret_uv (()) (trivial) hx hb hr hlocks hAe hK hP hD hS [0] rfl rfl dJ5_inflateIfNeededFor_a7421_21
theorem iJ5_putStringAt_47b60_J4 : ∀ w ∈ u_ws RJ4 TJ4 4, w ∈ wsJ5_putStringAt_47b60 := fun w h => List.mem_cons_of_mem _ (List.mem_append_left _ (List.mem_append_right _ h))
set_option maxHeartbeats 4000000 in
set_option maxRecDepth 100000 in
theorem c_J5_putStringAt_47b60 (l : Launch) (D : va_G) (y : Nat → ClassId) (sz : Nat) (sa sn : Nat) (tt : Nat → Nat) (a v n m : Nat) (ml : Int32) (b : Nat → Int32) (hm : m ≤ 65536) (hn : n + sn ≤ m) : Met l yJ5_putStringAt_47b60 wsJ5_putStringAt_47b60 (rmx 3 140 0 0) (sP D y [(a, .inr (1, [.ref v, .int 0, .int ml, .int (nI n)])), (v, .inl (y 2, m, .inl (b)))] sz [.ref a, .int (nI n), .ref sa] sa sn tt) (wQuv (S := Unit) D y (fun _ => True) (fun _ => [(a, .inr (1, [.ref v, .int 0, .int ml, .int (nI n)])), (v, .inl (y 2, m, .inl (va_cpy (fun j => sb_b (tt j)) b 0 n sn)))]) [(a, .inr (1, [.ref v, .int 0, .int ml, .int (nI n)])), (v, .inl (y 2, m, .inl (b)))] sz) 0 0 (va_A [(a, .inr (1, [.ref v, .int 0, .int ml, .int (nI n)])), (v, .inl (y 2, m, .inl (b)))] sz) := by
  refine Met.ofW (cc := cJ5_putStringAt_47b60) (maxL := 3) (ret := none) (by decide) rfl ?_
  intro p e s mi args below meth c s₁ B hml hv
  obtain ⟨hav, hsz, hP, hK, hD0, hJ, hX⟩ := hv
  have hx := B.exec
  have hb := B.bytes
  have hr := B.returns
  have hts := atoms_spec (ws := wsJ5_putStringAt_47b60) B.pre
  have hown : s.vm.findClass RJ5 = some mi.cls := findClass_of_methodNamed B.named
  have hlocks := B.notSynchronized
  subst hsz
  have hD := hD0.self (sz := s.heap.size)
  obtain ⟨A, hAe⟩ : ∃ A : Nat → Prop, va_A [(a, .inr (1, [.ref v, .int 0, .int ml, .int (nI n)])), (v, .inl (y 2, m, .inl (b)))] s.heap.size = A := ⟨_, rfl⟩
  rw [hAe] at hD
  rw [hAe] at hJ
  rw [hAe] at hX
  have hA : ∀ q, s.heap.size ≤ q → A q := fun q h => by rw [← hAe]; exact Or.inr h
  have hS : va_S A s.heap s.heap [] := va_S.rf
  have hX0 := hX
  obtain ⟨t0, hO, hC0, hV0, hT0, hB0⟩ := hX0
  refine W_q (R1 := (rmx 3 140 0 0)) rfl (fun Q0 hQ0 => ?_)
  refine W_entry hav (Nat.le_of_ble_eq_true rfl) (fun ls hl => ?_)
  have hl : lv_has ls 3 [(0, .ref a), (1, .int (nI n)), (2, .ref sa)] := hl
  refine lv_aload_n hx hb dJ5_putStringAt_47b60_0 rfl (lv_at hl 0 rfl) ?_
  refine lv_aload_n hx hb dJ5_putStringAt_47b60_1 rfl (lv_at hl 2 rfl) ?_
  refine cs_Uv (As := [.ref sa]) (rest := []) (wr := [(v, .inl (y 2, m, .inl (b)))]) ⟨hx, hb, hml, hown, hts⟩ (c_J5_inflateIfNeededFor_a7421 l D y s.heap.size sa sn tt a v n ml) (va_cwU 1 hts gJ5_putStringAt_47b60_J5_inflateIfNeededFor_a7421_u397J4 rfl rfl rfl rfl (by decide +kernel) ⟨(Nat.le_of_ble_eq_true rfl), (Nat.le_of_ble_eq_true rfl)⟩) hK hP hD hS hA hJ hX [0] [1] rfl rfl rfl rfl (by decide) rfl rfl rfl hl.1 rfl (Nat.le_of_ble_eq_true rfl) dJ5_putStringAt_47b60_2 ⟨(Nat.le_of_ble_eq_true rfl), (Nat.le_of_ble_eq_true rfl)⟩ (fun u1 H locs hu1 hP hD hS => ?_)
  have hP : va_P D vwCl [(v, .inl (y 2, m, .inl (b))), (a, .inr (1, [.ref v, .int 0, .int ml, .int (nI n)]))] H := hP
  have hD : va_D A [(v, .inl (y 2, m, .inl (b))), (a, .inr (1, [.ref v, .int 0, .int ml, .int (nI n)]))] := hD
  refine lv_aload_n hx hb dJ5_putStringAt_47b60_5 rfl (lv_at hl 2 rfl) ?_
  refine lv_aload_n hx hb dJ5_putStringAt_47b60_6 rfl (lv_at hl 0 rfl) ?_
  refine va_get (D := D) (ci := 1) (v := .ref v) (C := RJ4) (T := TJ4) (N := 4) hx hb hts iJ5_putStringAt_47b60_J4 hown hK hP 1 rfl rfl 0 (by decide) (hts (.fieldLink RJ5 15 "java/lang/AbstractStringBuilder" "value" "[B") (List.mem_of_getElem? (i := 1) rfl)) (fun _ h9 => h9) rfl dJ5_putStringAt_47b60_7 ?_
  refine lv_iload_n hx hb dJ5_putStringAt_47b60_10 rfl (lv_at hl 1 rfl) ?_
  refine lv_aload_n hx hb dJ5_putStringAt_47b60_11 rfl (lv_at hl 0 rfl) ?_
  refine va_get (D := D) (ci := 1) (v := .int 0) (C := RJ4) (T := TJ4) (N := 4) hx hb hts iJ5_putStringAt_47b60_J4 hown hK hP 1 rfl rfl 1 (by decide) (hts (.fieldLink RJ5 22 "java/lang/AbstractStringBuilder" "coder" "B") (List.mem_of_getElem? (i := 2) rfl)) (fun _ h9 => h9) rfl dJ5_putStringAt_47b60_12 ?_
  refine ct_Vv (As := [.ref v, .int (nI n), .int (0)]) (rest := []) (wr := [(a, .inr (1, [.ref v, .int 0, .int ml, .int (nI n)]))]) ⟨hx, hb, hml, hown, hts⟩ (c_J0_getBytes_840e7 l D y H.size sa sn tt v m n b hm hn) (cwV 3 hts gJ5_putStringAt_47b60_J0_getBytes_840e7 rfl rfl rfl (by decide +kernel) ⟨(Nat.le_of_ble_eq_true rfl), (Nat.le_of_ble_eq_true rfl)⟩) hK hP hD hS hA hJ hX [0] [1] rfl rfl rfl rfl (by decide) rfl hl.1 rfl (Nat.le_of_ble_eq_true rfl) dJ5_putStringAt_47b60_15 ⟨(Nat.le_of_ble_eq_true rfl), (Nat.le_of_ble_eq_true rfl)⟩ (fun u2 H locs hu2 hP hD hS => ?_)
  have hP : va_P D vwCl [(a, .inr (1, [.ref v, .int 0, .int ml, .int (nI n)])), (v, .inl (y 2, m, .inl (va_cpy (fun j => sb_b (tt j)) b 0 n sn)))] H := hP
  have hD : va_D A [(a, .inr (1, [.ref v, .int 0, .int ml, .int (nI n)])), (v, .inl (y 2, m, .inl (va_cpy (fun j => sb_b (tt j)) b 0 n sn)))] := hD
  rw [hQ0]
  exact ret_uv (()) (trivial) hx hb hr hlocks hAe hK hP hD hS [0, 1] rfl rfl dJ5_putStringAt_47b60_18
theorem iJ5_append_cf1ce_J4 : ∀ w ∈ u_ws RJ4 TJ4 4, w ∈ wsJ5_append_cf1ce := fun w h => List.mem_cons_of_mem _ (List.mem_append_left _ (List.mem_append_right _ h))
set_option maxHeartbeats 4000000 in
set_option maxRecDepth 100000 in
theorem c_J5_append_cf1ce (l : Launch) (D : va_G) (y : Nat → ClassId) (sz : Nat) (sa sn : Nat) (tt : Nat → Nat) (a v n m : Nat) (ml : Int32) (t : Nat → Nat) (b : Nat → Int32) (hm : m ≤ 65536) (hn : n + sn ≤ m) (hn2 : n + sn ≤ 10000) (hL : sb_Lat t n b) (hfit : sb_Fit b) : Met l yJ5_append_cf1ce wsJ5_append_cf1ce (rmx 6 220 0 0) (sP D y [(a, .inr (1, [.ref v, .int 0, .int ml, .int (nI n)])), (v, .inl (y 2, m, .inl (b)))] sz [.ref a, .ref sa] sa sn tt) (wQur (S := Nat × (Nat → Int32)) D y (fun _ => a) (fun u => sb_Lat (sb_cat t n tt) (n + sn) u.2 ∧ sb_Fit u.2) (fun u => [(a, .inr (1, [.ref u.1, .int 0, .int ml, .int (nI (n + sn))])), (u.1, .inl (y 2, m, .inl (u.2)))]) [(a, .inr (1, [.ref v, .int 0, .int ml, .int (nI n)])), (v, .inl (y 2, m, .inl (b)))] sz) 0 0 (va_A [(a, .inr (1, [.ref v, .int 0, .int ml, .int (nI n)])), (v, .inl (y 2, m, .inl (b)))] sz) := by
  refine Met.ofW (cc := cJ5_append_cf1ce) (maxL := 3) (ret := (some (.object "java/lang/AbstractStringBuilder"))) (by decide) rfl ?_
  intro p e s mi args below meth c s₁ B hml hv
  obtain ⟨hav, hsz, hP, hK, hD0, hJ, hX⟩ := hv
  have hx := B.exec
  have hb := B.bytes
  have hr := B.returns
  have hts := atoms_spec (ws := wsJ5_append_cf1ce) B.pre
  have hown : s.vm.findClass RJ5 = some mi.cls := findClass_of_methodNamed B.named
  have hlocks := B.notSynchronized
  subst hsz
  have hD := hD0.self (sz := s.heap.size)
  obtain ⟨A, hAe⟩ : ∃ A : Nat → Prop, va_A [(a, .inr (1, [.ref v, .int 0, .int ml, .int (nI n)])), (v, .inl (y 2, m, .inl (b)))] s.heap.size = A := ⟨_, rfl⟩
  rw [hAe] at hD
  rw [hAe] at hJ
  rw [hAe] at hX
  have hA : ∀ q, s.heap.size ≤ q → A q := fun q h => by rw [← hAe]; exact Or.inr h
  have hS : va_S A s.heap s.heap [] := va_S.rf
  have hX0 := hX
  obtain ⟨t0, hO, hC0, hV0, hT0, hB0⟩ := hX0
  refine W_q (R1 := (rmx 6 220 0 0)) rfl (fun Q0 hQ0 => ?_)
  refine W_entry hav (Nat.le_of_ble_eq_true rfl) (fun ls hl => ?_)
  have hl : lv_has ls 3 [(0, .ref a), (1, .ref sa)] := hl
  refine lv_aload_n hx hb dJ5_append_cf1ce_0 rfl (lv_at hl 1 rfl) ?_
  refine lv_ifnonnull (tgt := 9) hx hb dJ5_append_cf1ce_1 (by decide) ?_
  refine lv_aload_n hx hb dJ5_append_cf1ce_9 rfl (lv_at hl 1 rfl) ?_
  refine ct_Vi (As := []) (rest := []) (wr := [(a, .inr (1, [.ref v, .int 0, .int ml, .int (nI n)])), (v, .inl (y 2, m, .inl (b)))]) ⟨hx, hb, hml, hown, hts⟩ (c_J0_length_8abf5 l D y s.heap.size sa sn tt) (cwV 0 hts gJ5_append_cf1ce_J0_length_8abf5 rfl rfl rfl (by decide +kernel) ⟨(Nat.le_of_ble_eq_true rfl), (Nat.le_of_ble_eq_true rfl)⟩) hK hP hD hS hA hJ hX [] [0, 1] rfl rfl rfl rfl (by decide) rfl hl.1 rfl (Nat.le_of_ble_eq_true rfl) dJ5_append_cf1ce_10 ⟨(Nat.le_of_ble_eq_true rfl), (Nat.le_of_ble_eq_true rfl)⟩ (fun u1 H locs hu1 hP hD hS => ?_)
  have hP : va_P D vwCl [(a, .inr (1, [.ref v, .int 0, .int ml, .int (nI n)])), (v, .inl (y 2, m, .inl (b)))] H := hP
  have hD : va_D A [(a, .inr (1, [.ref v, .int 0, .int ml, .int (nI n)])), (v, .inl (y 2, m, .inl (b)))] := hD
  refine lv_istore_n (lv' := [(2, .int (nI sn)), (0, .ref a), (1, .ref sa)]) hx hb dJ5_append_cf1ce_13 rfl hl (by decide) rfl (fun ls hl => ?_)
  refine lv_aload_n hx hb dJ5_append_cf1ce_14 rfl (lv_at hl 1 rfl) ?_
  refine lv_aload_n hx hb dJ5_append_cf1ce_15 rfl (lv_at hl 1 rfl) ?_
  refine va_get (D := D) (ci := 1) (v := .int (nI n)) (C := RJ4) (T := TJ4) (N := 4) hx hb hts iJ5_append_cf1ce_J4 hown hK hP 0 rfl rfl 3 (by decide) (hts (.fieldLink RJ5 79 "java/lang/AbstractStringBuilder" "count" "I") (List.mem_of_getElem? (i := 1) rfl)) (fun _ h9 => h9) rfl dJ5_append_cf1ce_16 ?_
  refine lv_iload_n hx hb dJ5_append_cf1ce_19 rfl (lv_at hl 0 rfl) ?_
  refine lv_iadd hx hb dJ5_append_cf1ce_20 ?_
  refine s1_is (z := nI (n + sn)) (nI_add n sn) ?_
  refine cj_Uv (As := [.int (nI (n + sn))]) (rest := []) (wr := []) ⟨hx, hb, hml, hown, hts⟩ (c_J5_ensureCapacityInternal_d00df l D y H.size a v n m (n + sn) ml b hm (by omega) hfit) (va_cwU 1 hts gJ5_append_cf1ce_J5_ensureCapacityInternal_d00df_u100J4 rfl rfl rfl rfl (by decide +kernel) ⟨(Nat.le_of_ble_eq_true rfl), (Nat.le_of_ble_eq_true rfl)⟩) hK hP hD hS hA hJ [0, 1] [] rfl rfl rfl rfl (by decide) rfl rfl rfl hl.1 rfl (Nat.le_of_ble_eq_true rfl) dJ5_append_cf1ce_21 ⟨by rw [gC, if_pos hn]; decide, by rw [gS, if_pos hn]; decide⟩ (fun u H locs hu hP hD hS => ?_)
  have hP : va_P D vwCl [(a, .inr (1, [.ref u.1, .int 0, .int ml, .int (nI n)])), (u.1, .inl (y 2, sb_cap (n + sn) m, .inl u.2))] H := hP
  have hD : va_D A [(a, .inr (1, [.ref u.1, .int 0, .int ml, .int (nI n)])), (u.1, .inl (y 2, sb_cap (n + sn) m, .inl u.2))] := hD
  rw [show sb_cap (n + sn) m = m from if_pos hn] at hP hD
  refine lv_aload_n hx hb dJ5_append_cf1ce_24 rfl (lv_at hl 1 rfl) ?_
  refine lv_aload_n hx hb dJ5_append_cf1ce_25 rfl (lv_at hl 1 rfl) ?_
  refine va_get (D := D) (ci := 1) (v := .int (nI n)) (C := RJ4) (T := TJ4) (N := 4) hx hb hts iJ5_append_cf1ce_J4 hown hK hP 0 rfl rfl 3 (by decide) (hts (.fieldLink RJ5 79 "java/lang/AbstractStringBuilder" "count" "I") (List.mem_of_getElem? (i := 1) rfl)) (fun _ h9 => h9) rfl dJ5_append_cf1ce_26 ?_
  refine lv_aload_n hx hb dJ5_append_cf1ce_29 rfl (lv_at hl 2 rfl) ?_
  refine cs_Uv (As := [.int ((nI n)), .ref sa]) (rest := []) (wr := []) ⟨hx, hb, hml, hown, hts⟩ (c_J5_putStringAt_47b60 l D y H.size sa sn tt a u.1 n m ml u.2 hm hn) (va_cwU 2 hts gJ5_append_cf1ce_J5_putStringAt_47b60_u208J4 rfl rfl rfl rfl (by decide +kernel) ⟨(Nat.le_of_ble_eq_true rfl), (Nat.le_of_ble_eq_true rfl)⟩) hK hP hD hS hA hJ hX [0, 1] [] rfl rfl rfl rfl (by decide) rfl rfl rfl hl.1 rfl (Nat.le_of_ble_eq_true rfl) dJ5_append_cf1ce_30 ⟨by rw [gC, if_pos hn]; decide, by rw [gS, if_pos hn]; decide⟩ (fun u2 H locs hu2 hP hD hS => ?_)
  have hP : va_P D vwCl [(a, .inr (1, [.ref u.1, .int 0, .int ml, .int (nI n)])), (u.1, .inl (y 2, m, .inl (va_cpy (fun j => sb_b (tt j)) u.2 0 n sn)))] H := hP
  have hD : va_D A [(a, .inr (1, [.ref u.1, .int 0, .int ml, .int (nI n)])), (u.1, .inl (y 2, m, .inl (va_cpy (fun j => sb_b (tt j)) u.2 0 n sn)))] := hD
  refine lv_aload_n hx hb dJ5_append_cf1ce_33 rfl (lv_at hl 1 rfl) ?_
  refine lv_dup hx hb dJ5_append_cf1ce_34 rfl ?_
  refine va_get (D := D) (ci := 1) (v := .int (nI n)) (C := RJ4) (T := TJ4) (N := 4) hx hb hts iJ5_append_cf1ce_J4 hown hK hP 0 rfl rfl 3 (by decide) (hts (.fieldLink RJ5 79 "java/lang/AbstractStringBuilder" "count" "I") (List.mem_of_getElem? (i := 1) rfl)) (fun _ h9 => h9) rfl dJ5_append_cf1ce_35 ?_
  refine lv_iload_n hx hb dJ5_append_cf1ce_38 rfl (lv_at hl 0 rfl) ?_
  refine lv_iadd hx hb dJ5_append_cf1ce_39 ?_
  refine s1_is (z := nI (n + sn)) (nI_add n sn) ?_
  refine va_put (D := D) (ci := 1) (v := .int (nI (n + sn))) (ty := .int) (C := RJ4) (T := TJ4) (N := 4) hx hb hts iJ5_append_cf1ce_J4 tyJ4 tyJ4_ok nmJ4 hown hK hP hD hS 0 rfl rfl 3 (by decide) (hts (.fieldLink RJ5 79 "java/lang/AbstractStringBuilder" "count" "I") (List.mem_of_getElem? (i := 1) rfl)) (fun _ h9 => h9) rfl (by decide +kernel) rfl rfl (Nat.le_of_ble_eq_true rfl) dJ5_append_cf1ce_40 (fun H locs hP hD hS => ?_)
  have hP : va_P D vwCl [(a, .inr (1, [.ref u.1, .int 0, .int ml, .int (nI (n + sn))])), (u.1, .inl (y 2, m, .inl (va_cpy (fun j => sb_b (tt j)) u.2 0 n sn)))] H := hP
  have hD : va_D A [(a, .inr (1, [.ref u.1, .int 0, .int ml, .int (nI (n + sn))])), (u.1, .inl (y 2, m, .inl (va_cpy (fun j => sb_b (tt j)) u.2 0 n sn)))] := hD
  refine lv_aload_n hx hb dJ5_append_cf1ce_43 rfl (lv_at hl 1 rfl) ?_
  rw [hQ0]
  refine W.widen (k := 0) (n := 0) (by rw [gC, if_pos hn]; decide) (by rw [gS, if_pos hn]; decide) ?_
  exact ret_ur ((u.1, va_cpy (fun j => sb_b (tt j)) u.2 0 n sn)) (⟨sb_catS hL (fun j hj => hu.1 j (by omega)) hB0, sb_fitS hu.2⟩) hx hb hr (Or.inl ⟨_, rfl⟩) hlocks hAe hK hP hD hS [0, 1] rfl rfl dJ5_append_cf1ce_44

set_option maxHeartbeats 4000000 in
set_option maxRecDepth 100000 in
theorem c_J4_append_15ec4 (l : Launch) (D : va_G) (y : Nat → ClassId) (sz : Nat) (sa sn : Nat) (tt : Nat → Nat) (a v n m : Nat) (ml : Int32) (t : Nat → Nat) (b : Nat → Int32) (hm : m ≤ 65536) (hn : n + sn ≤ m) (hn2 : n + sn ≤ 10000) (hL : sb_Lat t n b) (hfit : sb_Fit b) : Met l yJ4_append_15ec4 wsJ4_append_15ec4 (rmx 7 260 0 0) (sP D y [(a, .inr (1, [.ref v, .int 0, .int ml, .int (nI n)])), (v, .inl (y 2, m, .inl (b)))] sz [.ref a, .ref sa] sa sn tt) (wQur (S := Nat × (Nat → Int32)) D y (fun _ => a) (fun u => sb_Lat (sb_cat t n tt) (n + sn) u.2 ∧ sb_Fit u.2) (fun u => [(a, .inr (1, [.ref u.1, .int 0, .int ml, .int (nI (n + sn))])), (u.1, .inl (y 2, m, .inl (u.2)))]) [(a, .inr (1, [.ref v, .int 0, .int ml, .int (nI n)])), (v, .inl (y 2, m, .inl (b)))] sz) 0 0 (va_A [(a, .inr (1, [.ref v, .int 0, .int ml, .int (nI n)])), (v, .inl (y 2, m, .inl (b)))] sz) := by
  refine Met.ofW (cc := cJ4_append_15ec4) (maxL := 2) (ret := (some (.object "java/lang/StringBuilder"))) (by decide) rfl ?_
  intro p e s mi args below meth c s₁ B hml hv
  obtain ⟨hav, hsz, hP, hK, hD0, hJ, hX⟩ := hv
  have hx := B.exec
  have hb := B.bytes
  have hr := B.returns
  have hts := atoms_spec (ws := wsJ4_append_15ec4) B.pre
  have hown : s.vm.findClass RJ4 = some mi.cls := findClass_of_methodNamed B.named
  have hlocks := B.notSynchronized
  subst hsz
  have hD := hD0.self (sz := s.heap.size)
  obtain ⟨A, hAe⟩ : ∃ A : Nat → Prop, va_A [(a, .inr (1, [.ref v, .int 0, .int ml, .int (nI n)])), (v, .inl (y 2, m, .inl (b)))] s.heap.size = A := ⟨_, rfl⟩
  rw [hAe] at hD
  rw [hAe] at hJ
  rw [hAe] at hX
  have hA : ∀ q, s.heap.size ≤ q → A q := fun q h => by rw [← hAe]; exact Or.inr h
  have hS : va_S A s.heap s.heap [] := va_S.rf
  have hX0 := hX
  obtain ⟨t0, hO, hC0, hV0, hT0, hB0⟩ := hX0
  refine W_q (R1 := (rmx 7 260 0 0)) rfl (fun Q0 hQ0 => ?_)
  refine W_entry hav (Nat.le_of_ble_eq_true rfl) (fun ls hl => ?_)
  have hl : lv_has ls 2 [(0, .ref a), (1, .ref sa)] := hl
  refine lv_aload_n hx hb dJ4_append_15ec4_0 rfl (lv_at hl 0 rfl) ?_
  refine lv_aload_n hx hb dJ4_append_15ec4_1 rfl (lv_at hl 1 rfl) ?_
  refine cs_Wr (As := [.ref sa]) (rest := []) (wr := []) ⟨hx, hb, hml, hown, hts⟩ (c_J5_append_cf1ce l D y s.heap.size sa sn tt a v n m ml t b hm hn hn2 hL hfit) (va_cwSU 1 hts gJ4_append_15ec4_J5_append_cf1ce_s29 rfl rfl rfl (by decide +kernel) ⟨(Nat.le_of_ble_eq_true rfl), (Nat.le_of_ble_eq_true rfl)⟩) hK hP hD hS hA hJ hX [0, 1] [] rfl rfl rfl rfl (by decide) rfl rfl rfl hl.1 rfl (Nat.le_of_ble_eq_true rfl) dJ4_append_15ec4_2 ⟨(Nat.le_of_ble_eq_true rfl), (Nat.le_of_ble_eq_true rfl)⟩ (fun u H locs hu hP hD hS => ?_)
  have hP : va_P D vwCl [(a, .inr (1, [.ref u.1, .int 0, .int ml, .int (nI (n + sn))])), (u.1, .inl (y 2, m, .inl (u.2)))] H := hP
  have hD : va_D A [(a, .inr (1, [.ref u.1, .int 0, .int ml, .int (nI (n + sn))])), (u.1, .inl (y 2, m, .inl (u.2)))] := hD
  refine lv_pop hx hb dJ4_append_15ec4_5 rfl ?_
  refine lv_aload_n hx hb dJ4_append_15ec4_6 rfl (lv_at hl 0 rfl) ?_
  rw [hQ0]
  exact ret_ur (u) (hu) hx hb hr (Or.inl ⟨_, rfl⟩) hlocks hAe hK hP hD hS [0, 1] rfl rfl dJ4_append_15ec4_7
