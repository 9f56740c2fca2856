/-! the law's questions -/
set_option maxHeartbeats 4000000 in
set_option maxRecDepth 100000 in
theorem oL_weightIn (l : Launch) (hst : l.stackTraces = false) (D : va_G) (y : Nat → ClassId) (sz at_ : Nat) {q : Lad} {us : List Lad} {sv : Option Lad} {rs dt ix lf : Int32} {M : Nat} {tx : Nat → Int32} {NN : Nat} {TT : Nat → Nat} (V : va_W) (p1 : Int32) (p2 : Int32) (hO : Ob y at_ q us sv rs dt ix lf M tx NN TT V) : vx_Met l yL_weightIn wsL_weightIn (rmx 12 400 3 18) (zlP D y V sz [.ref at_, .int p1, .int p2]) (oQi D y 0 (fun r V' => r = (lq_weightIn q p1 p2) ∧ Ob y at_ q us sv rs dt ix lf M tx NN TT V') V sz) (oX D y 0 (fun _ => False) V sz) 3 18 (va_A V sz) := by
  refine vx_ofWH (cc := cL_weightIn) (maxL := 4) (ret := (some .int)) (hh := [(0, 6, 7, 41)]) (by decide) rfl ?_
  intro p e s m args below meth c s₁ B hml hv
  obtain ⟨hav, hsz, hP, hK, hD0, hZ, hN, hJ⟩ := hv
  have hx := B.exec
  have hb := B.bytes
  have hr := B.returns
  have hts := atoms_spec (ws := wsL_weightIn) B.pre
  have hown : s.vm.findClass RL = some m.cls := findClass_of_methodNamed B.named
  have hlocks := B.notSynchronized
  have htab := vx_table (x := yL_weightIn) B (hts _ List.mem_cons_self)
  subst hsz
  have hD := hD0.self (sz := s.heap.size)
  obtain ⟨A, hAe⟩ : ∃ A : Nat → Prop, va_A V s.heap.size = A := ⟨_, rfl⟩
  rw [hAe] at hD hZ hJ
  have hA : ∀ q, s.heap.size ≤ q → A q := fun q h => by rw [← hAe]; exact Or.inr h
  have hS : va_S A s.heap s.heap [] := va_S.rf
  have hP : va_P D vwCl (V ++ []) s.heap := by rw [List.append_nil]; exact hP
  have hD : va_D A (V ++ []) := by rw [List.append_nil]; exact hD
  obtain ⟨fs, he⟩ := Ob_head hO
  refine W_q (R1 := (rmx 12 400 3 18)) rfl (fun Q0 hQ0 => ?_)
  refine W_entry hav (Nat.le_of_ble_eq_true rfl) (fun ls hl => ?_)
  have hl : lv_has ls 4 [(0, .ref at_), (1, .int p1), (2, .int p2)] := hl
  refine lv_aload_n hx hb dL_weightIn_0 rfl (lv_at hl 0 rfl) ?_
  refine lv_iload_n hx hb dL_weightIn_1 rfl (lv_at hl 1 rfl) ?_
  refine lv_iload_n hx hb dL_weightIn_2 rfl (lv_at hl 2 rfl) ?_
  refine ow_V (As := [.int p1, .int p2]) (rest := []) ⟨hx, hb, hml, hown, hts⟩ (o_weightIn l hst D y s.heap.size at_ V p1 p2 hO) (cwV 2 hts gL_weightIn_X7_weightIn rfl rfl rfl (by decide +kernel) ⟨(Nat.le_of_ble_eq_true rfl), (Nat.le_of_ble_eq_true rfl)⟩) he hK hP hD hS hA hZ hN hJ rfl hl.1 rfl (Nat.le_of_ble_eq_true rfl) dL_weightIn_3 ⟨(Nat.le_of_ble_eq_true rfl), (Nat.le_of_ble_eq_true rfl)⟩ (fun hk V1 ce q9 H locs hO9 hP hD hS h1 h2 h3 => ?_) (fun hk r V1 H locs hO9 hP hD hS => ?_)
  · rcases (K_weightIn (Ob_GL hO) (p1 := p1) (p2 := p2)) with h | h
    · exact absurd h hk
    · have h3 : s.vm.findClass (exn 1) = some ce.cls := by rw [← h]; exact h3
      refine vx_catch (own := RL) (E := "java/lang/IllegalArgumentException") (name := "java/lang/IllegalArgumentException") hown [] ⟨0, 6, 7, 41⟩ [] (htab.trans rfl) (List.forall_mem_nil _) (by decide) (by decide) (hts (.classLink RL 41 "java/lang/IllegalArgumentException") (List.mem_of_getElem? (i := 1) rfl)) (va_Nw.use rfl (hZ.2.2.2 _ (by decide))) h1 h2 h3 ?_
      refine lv_astore_n (lv' := [(3, .ref q9), (0, .ref at_), (1, .int p1), (2, .int p2)]) hx hb dL_weightIn_7 rfl hl (by decide) rfl (fun ls hl => ?_)
      refine lv_sipush (v := -1001) hx hb dL_weightIn_8 (by decide) ?_
      rw [hQ0]
      exact oxret_i hx hb hr hlocks hAe hK hP hD hS (⟨by unfold lq_weightIn; rw [h]; rfl, hO9⟩) dL_weightIn_11
  · rw [hQ0]
    exact oxret_i hx hb hr hlocks hAe hK hP hD hS (⟨by unfold lq_weightIn; rw [if_pos hk]; exact hO9.1, hO9.2⟩) dL_weightIn_6
set_option maxHeartbeats 4000000 in
set_option maxRecDepth 100000 in
theorem oL_heaviestIn (l : Launch) (hst : l.stackTraces = false) (D : va_G) (y : Nat → ClassId) (sz at_ : Nat) {q : Lad} {us : List Lad} {sv : Option Lad} {rs dt ix lf : Int32} {M : Nat} {tx : Nat → Int32} {NN : Nat} {TT : Nat → Nat} (V : va_W) (p1 : Int32) (p2 : Int32) (hO : Ob y at_ q us sv rs dt ix lf M tx NN TT V) : vx_Met l yL_heaviestIn wsL_heaviestIn (rmx 12 400 4 24) (zlP D y V sz [.ref at_, .int p1, .int p2]) (oQi D y 0 (fun r V' => r = (lq_heaviestIn q p1 p2) ∧ Ob y at_ q us sv rs dt ix lf M tx NN TT V') V sz) (oX D y 0 (fun _ => False) V sz) 4 24 (va_A V sz) := by
  refine vx_ofWH (cc := cL_heaviestIn) (maxL := 4) (ret := (some .int)) (hh := [(0, 6, 7, 41), (0, 6, 12, 43)]) (by decide) rfl ?_
  intro p e s m args below meth c s₁ B hml hv
  obtain ⟨hav, hsz, hP, hK, hD0, hZ, hN, hJ⟩ := hv
  have hx := B.exec
  have hb := B.bytes
  have hr := B.returns
  have hts := atoms_spec (ws := wsL_heaviestIn) B.pre
  have hown : s.vm.findClass RL = some m.cls := findClass_of_methodNamed B.named
  have hlocks := B.notSynchronized
  have htab := vx_table (x := yL_heaviestIn) B (hts _ List.mem_cons_self)
  subst hsz
  have hD := hD0.self (sz := s.heap.size)
  obtain ⟨A, hAe⟩ : ∃ A : Nat → Prop, va_A V s.heap.size = A := ⟨_, rfl⟩
  rw [hAe] at hD hZ hJ
  have hA : ∀ q, s.heap.size ≤ q → A q := fun q h => by rw [← hAe]; exact Or.inr h
  have hS : va_S A s.heap s.heap [] := va_S.rf
  have hP : va_P D vwCl (V ++ []) s.heap := by rw [List.append_nil]; exact hP
  have hD : va_D A (V ++ []) := by rw [List.append_nil]; exact hD
  obtain ⟨fs, he⟩ := Ob_head hO
  refine W_q (R1 := (rmx 12 400 4 24)) rfl (fun Q0 hQ0 => ?_)
  refine W_entry hav (Nat.le_of_ble_eq_true rfl) (fun ls hl => ?_)
  have hl : lv_has ls 4 [(0, .ref at_), (1, .int p1), (2, .int p2)] := hl
  refine lv_aload_n hx hb dL_heaviestIn_0 rfl (lv_at hl 0 rfl) ?_
  refine lv_iload_n hx hb dL_heaviestIn_1 rfl (lv_at hl 1 rfl) ?_
  refine lv_iload_n hx hb dL_heaviestIn_2 rfl (lv_at hl 2 rfl) ?_
  refine ow_V (As := [.int p1, .int p2]) (rest := []) ⟨hx, hb, hml, hown, hts⟩ (o_heaviestIn l hst D y s.heap.size at_ V p1 p2 hO) (cwV 2 hts gL_heaviestIn_X7_heaviestIn rfl rfl rfl (by decide +kernel) ⟨(Nat.le_of_ble_eq_true rfl), (Nat.le_of_ble_eq_true rfl)⟩) he hK hP hD hS hA hZ hN hJ rfl hl.1 rfl (Nat.le_of_ble_eq_true rfl) dL_heaviestIn_3 ⟨(Nat.le_of_ble_eq_true rfl), (Nat.le_of_ble_eq_true rfl)⟩ (fun hk V1 ce q9 H locs hO9 hP hD hS h1 h2 h3 => ?_) (fun hk r V1 H locs hO9 hP hD hS => ?_)
  · rcases (K_heaviestIn (Ob_GL hO) (p1 := p1) (p2 := p2)) with h | h | h
    · exact absurd h hk
    · have h3 : s.vm.findClass (exn 1) = some ce.cls := by rw [← h]; exact h3
      refine vx_catch (own := RL) (E := "java/lang/IllegalArgumentException") (name := "java/lang/IllegalArgumentException") hown [] ⟨0, 6, 7, 41⟩ [⟨0, 6, 12, 43⟩] (htab.trans rfl) (List.forall_mem_nil _) (by decide) (by decide) (hts (.classLink RL 41 "java/lang/IllegalArgumentException") (List.mem_of_getElem? (i := 1) rfl)) (va_Nw.use rfl (hZ.2.2.2 _ (by decide))) h1 h2 h3 ?_
      refine lv_astore_n (lv' := [(3, .ref q9), (0, .ref at_), (1, .int p1), (2, .int p2)]) hx hb dL_heaviestIn_7 rfl hl (by decide) rfl (fun ls hl => ?_)
      refine lv_sipush (v := -1001) hx hb dL_heaviestIn_8 (by decide) ?_
      rw [hQ0]
      exact oxret_i hx hb hr hlocks hAe hK hP hD hS (⟨by unfold lq_heaviestIn; rw [h]; rfl, hO9⟩) dL_heaviestIn_11
    · have h3 : s.vm.findClass (exn 2) = some ce.cls := by rw [← h]; exact h3
      refine vx_catch (own := RL) (E := "java/util/NoSuchElementException") (name := "java/util/NoSuchElementException") hown [⟨0, 6, 7, 41⟩] ⟨0, 6, 12, 43⟩ [] (htab.trans rfl) (List.forall_mem_cons.mpr ⟨Or.inr ⟨by decide, "java/lang/IllegalArgumentException", (hts (.classLink RL 41 "java/lang/IllegalArgumentException") (List.mem_of_getElem? (i := 1) rfl)), hN _ (show ("java/util/NoSuchElementException", "java/lang/IllegalArgumentException") ∈ ncs by decide)⟩, List.forall_mem_nil _⟩) (by decide) (by decide) (hts (.classLink RL 43 "java/util/NoSuchElementException") (List.mem_of_getElem? (i := 2) rfl)) (va_Nw.use rfl (hZ.2.2.2 _ (by decide))) h1 h2 h3 ?_
      refine lv_astore_n (lv' := [(3, .ref q9), (0, .ref at_), (1, .int p1), (2, .int p2)]) hx hb dL_heaviestIn_12 rfl hl (by decide) rfl (fun ls hl => ?_)
      refine lv_sipush (v := -1002) hx hb dL_heaviestIn_13 (by decide) ?_
      rw [hQ0]
      exact oxret_i hx hb hr hlocks hAe hK hP hD hS (⟨by unfold lq_heaviestIn; rw [h]; rfl, hO9⟩) dL_heaviestIn_16
  · rw [hQ0]
    exact oxret_i hx hb hr hlocks hAe hK hP hD hS (⟨by unfold lq_heaviestIn; rw [if_pos hk]; exact hO9.1, hO9.2⟩) dL_heaviestIn_6
set_option maxHeartbeats 4000000 in
set_option maxRecDepth 100000 in
theorem oL_levelSize (l : Launch) (hst : l.stackTraces = false) (D : va_G) (y : Nat → ClassId) (sz at_ : Nat) {q : Lad} {us : List Lad} {sv : Option Lad} {rs dt ix lf : Int32} {M : Nat} {tx : Nat → Int32} {NN : Nat} {TT : Nat → Nat} (V : va_W) (p1 : Int32) (hO : Ob y at_ q us sv rs dt ix lf M tx NN TT V) : vx_Met l yL_levelSize wsL_levelSize (rmx 12 400 1 6) (zlP D y V sz [.ref at_, .int p1]) (oQi D y 0 (fun r V' => r = (lq_levelSize q p1) ∧ Ob y at_ q us sv rs dt ix lf M tx NN TT V') V sz) (oX D y 0 (fun _ => False) V sz) 1 6 (va_A V sz) := by
  refine vx_ofWH (cc := cL_levelSize) (maxL := 3) (ret := (some .int)) (hh := [(0, 5, 6, 87)]) (by decide) rfl ?_
  intro p e s m args below meth c s₁ B hml hv
  obtain ⟨hav, hsz, hP, hK, hD0, hZ, hN, hJ⟩ := hv
  have hx := B.exec
  have hb := B.bytes
  have hr := B.returns
  have hts := atoms_spec (ws := wsL_levelSize) B.pre
  have hown : s.vm.findClass RL = some m.cls := findClass_of_methodNamed B.named
  have hlocks := B.notSynchronized
  have htab := vx_table (x := yL_levelSize) B (hts _ List.mem_cons_self)
  subst hsz
  have hD := hD0.self (sz := s.heap.size)
  obtain ⟨A, hAe⟩ : ∃ A : Nat → Prop, va_A V s.heap.size = A := ⟨_, rfl⟩
  rw [hAe] at hD hZ hJ
  have hA : ∀ q, s.heap.size ≤ q → A q := fun q h => by rw [← hAe]; exact Or.inr h
  have hS : va_S A s.heap s.heap [] := va_S.rf
  have hP : va_P D vwCl (V ++ []) s.heap := by rw [List.append_nil]; exact hP
  have hD : va_D A (V ++ []) := by rw [List.append_nil]; exact hD
  obtain ⟨fs, he⟩ := Ob_head hO
  refine W_q (R1 := (rmx 12 400 1 6)) rfl (fun Q0 hQ0 => ?_)
  refine W_entry hav (Nat.le_of_ble_eq_true rfl) (fun ls hl => ?_)
  have hl : lv_has ls 3 [(0, .ref at_), (1, .int p1)] := hl
  refine lv_aload_n hx hb dL_levelSize_0 rfl (lv_at hl 0 rfl) ?_
  refine lv_iload_n hx hb dL_levelSize_1 rfl (lv_at hl 1 rfl) ?_
  refine ow_V (As := [.int p1]) (rest := []) ⟨hx, hb, hml, hown, hts⟩ (o_levelSize l hst D y s.heap.size at_ V p1 hO) (cwV 1 hts gL_levelSize_X7_levelSize rfl rfl rfl (by decide +kernel) ⟨(Nat.le_of_ble_eq_true rfl), (Nat.le_of_ble_eq_true rfl)⟩) he hK hP hD hS hA hZ hN hJ rfl hl.1 rfl (Nat.le_of_ble_eq_true rfl) dL_levelSize_2 ⟨(Nat.le_of_ble_eq_true rfl), (Nat.le_of_ble_eq_true rfl)⟩ (fun hk V1 ce q9 H locs hO9 hP hD hS h1 h2 h3 => ?_) (fun hk r V1 H locs hO9 hP hD hS => ?_)
  · rcases (K_levelSize (Ob_GL hO) (p1 := p1)) with h | h
    · exact absurd h hk
    · have h3 : s.vm.findClass (exn 3) = some ce.cls := by rw [← h]; exact h3
      refine vx_catch (own := RL) (E := "java/lang/IndexOutOfBoundsException") (name := "java/lang/IndexOutOfBoundsException") hown [] ⟨0, 5, 6, 87⟩ [] (htab.trans rfl) (List.forall_mem_nil _) (by decide) (by decide) (hts (.classLink RL 87 "java/lang/IndexOutOfBoundsException") (List.mem_of_getElem? (i := 1) rfl)) (va_Nw.use rfl (hZ.2.2.2 _ (by decide))) h1 h2 h3 ?_
      refine lv_astore_n (lv' := [(2, .ref q9), (0, .ref at_), (1, .int p1)]) hx hb dL_levelSize_6 rfl hl (by decide) rfl (fun ls hl => ?_)
      refine lv_sipush (v := -1001) hx hb dL_levelSize_7 (by decide) ?_
      rw [hQ0]
      exact oxret_i hx hb hr hlocks hAe hK hP hD hS (⟨by unfold lq_levelSize; rw [h]; rfl, hO9⟩) dL_levelSize_10
  · rw [hQ0]
    exact oxret_i hx hb hr hlocks hAe hK hP hD hS (⟨by unfold lq_levelSize; rw [if_pos hk]; exact hO9.1, hO9.2⟩) dL_levelSize_5
set_option maxHeartbeats 4000000 in
set_option maxRecDepth 100000 in
theorem oL_levelAt (l : Launch) (hst : l.stackTraces = false) (D : va_G) (y : Nat → ClassId) (sz at_ : Nat) {q : Lad} {us : List Lad} {sv : Option Lad} {rs dt ix lf : Int32} {M : Nat} {tx : Nat → Int32} {NN : Nat} {TT : Nat → Nat} (V : va_W) (p1 : Int32) (p2 : Int32) (hO : Ob y at_ q us sv rs dt ix lf M tx NN TT V) : vx_Met l yL_levelAt wsL_levelAt (rmx 12 400 2 12) (zlP D y V sz [.ref at_, .int p1, .int p2]) (oQi D y 0 (fun r V' => r = (lq_levelAt q p1 p2) ∧ Ob y at_ q us sv rs dt ix lf M tx NN TT V') V sz) (oX D y 0 (fun _ => False) V sz) 2 12 (va_A V sz) := by
  refine vx_ofWH (cc := cL_levelAt) (maxL := 4) (ret := (some .int)) (hh := [(0, 6, 7, 87), (0, 6, 12, 43)]) (by decide) rfl ?_
  intro p e s m args below meth c s₁ B hml hv
  obtain ⟨hav, hsz, hP, hK, hD0, hZ, hN, hJ⟩ := hv
  have hx := B.exec
  have hb := B.bytes
  have hr := B.returns
  have hts := atoms_spec (ws := wsL_levelAt) B.pre
  have hown : s.vm.findClass RL = some m.cls := findClass_of_methodNamed B.named
  have hlocks := B.notSynchronized
  have htab := vx_table (x := yL_levelAt) B (hts _ List.mem_cons_self)
  subst hsz
  have hD := hD0.self (sz := s.heap.size)
  obtain ⟨A, hAe⟩ : ∃ A : Nat → Prop, va_A V s.heap.size = A := ⟨_, rfl⟩
  rw [hAe] at hD hZ hJ
  have hA : ∀ q, s.heap.size ≤ q → A q := fun q h => by rw [← hAe]; exact Or.inr h
  have hS : va_S A s.heap s.heap [] := va_S.rf
  have hP : va_P D vwCl (V ++ []) s.heap := by rw [List.append_nil]; exact hP
  have hD : va_D A (V ++ []) := by rw [List.append_nil]; exact hD
  obtain ⟨fs, he⟩ := Ob_head hO
  refine W_q (R1 := (rmx 12 400 2 12)) rfl (fun Q0 hQ0 => ?_)
  refine W_entry hav (Nat.le_of_ble_eq_true rfl) (fun ls hl => ?_)
  have hl : lv_has ls 4 [(0, .ref at_), (1, .int p1), (2, .int p2)] := hl
  refine lv_aload_n hx hb dL_levelAt_0 rfl (lv_at hl 0 rfl) ?_
  refine lv_iload_n hx hb dL_levelAt_1 rfl (lv_at hl 1 rfl) ?_
  refine lv_iload_n hx hb dL_levelAt_2 rfl (lv_at hl 2 rfl) ?_
  refine ow_V (As := [.int p1, .int p2]) (rest := []) ⟨hx, hb, hml, hown, hts⟩ (o_levelAt l hst D y s.heap.size at_ V p1 p2 hO) (cwV 2 hts gL_levelAt_X7_levelAt rfl rfl rfl (by decide +kernel) ⟨(Nat.le_of_ble_eq_true rfl), (Nat.le_of_ble_eq_true rfl)⟩) he hK hP hD hS hA hZ hN hJ rfl hl.1 rfl (Nat.le_of_ble_eq_true rfl) dL_levelAt_3 ⟨(Nat.le_of_ble_eq_true rfl), (Nat.le_of_ble_eq_true rfl)⟩ (fun hk V1 ce q9 H locs hO9 hP hD hS h1 h2 h3 => ?_) (fun hk r V1 H locs hO9 hP hD hS => ?_)
  · rcases (K_levelAt (Ob_GL hO) (p1 := p1) (p2 := p2)) with h | h | h
    · exact absurd h hk
    · have h3 : s.vm.findClass (exn 3) = some ce.cls := by rw [← h]; exact h3
      refine vx_catch (own := RL) (E := "java/lang/IndexOutOfBoundsException") (name := "java/lang/IndexOutOfBoundsException") hown [] ⟨0, 6, 7, 87⟩ [⟨0, 6, 12, 43⟩] (htab.trans rfl) (List.forall_mem_nil _) (by decide) (by decide) (hts (.classLink RL 87 "java/lang/IndexOutOfBoundsException") (List.mem_of_getElem? (i := 1) rfl)) (va_Nw.use rfl (hZ.2.2.2 _ (by decide))) h1 h2 h3 ?_
      refine lv_astore_n (lv' := [(3, .ref q9), (0, .ref at_), (1, .int p1), (2, .int p2)]) hx hb dL_levelAt_7 rfl hl (by decide) rfl (fun ls hl => ?_)
      refine lv_sipush (v := -1001) hx hb dL_levelAt_8 (by decide) ?_
      rw [hQ0]
      exact oxret_i hx hb hr hlocks hAe hK hP hD hS (⟨by unfold lq_levelAt; rw [h]; rfl, hO9⟩) dL_levelAt_11
    · have h3 : s.vm.findClass (exn 2) = some ce.cls := by rw [← h]; exact h3
      refine vx_catch (own := RL) (E := "java/util/NoSuchElementException") (name := "java/util/NoSuchElementException") hown [⟨0, 6, 7, 87⟩] ⟨0, 6, 12, 43⟩ [] (htab.trans rfl) (List.forall_mem_cons.mpr ⟨Or.inr ⟨by decide, "java/lang/IndexOutOfBoundsException", (hts (.classLink RL 87 "java/lang/IndexOutOfBoundsException") (List.mem_of_getElem? (i := 1) rfl)), hN _ (show ("java/util/NoSuchElementException", "java/lang/IndexOutOfBoundsException") ∈ ncs by decide)⟩, List.forall_mem_nil _⟩) (by decide) (by decide) (hts (.classLink RL 43 "java/util/NoSuchElementException") (List.mem_of_getElem? (i := 2) rfl)) (va_Nw.use rfl (hZ.2.2.2 _ (by decide))) h1 h2 h3 ?_
      refine lv_astore_n (lv' := [(3, .ref q9), (0, .ref at_), (1, .int p1), (2, .int p2)]) hx hb dL_levelAt_12 rfl hl (by decide) rfl (fun ls hl => ?_)
      refine lv_sipush (v := -1002) hx hb dL_levelAt_13 (by decide) ?_
      rw [hQ0]
      exact oxret_i hx hb hr hlocks hAe hK hP hD hS (⟨by unfold lq_levelAt; rw [h]; rfl, hO9⟩) dL_levelAt_16
  · rw [hQ0]
    exact oxret_i hx hb hr hlocks hAe hK hP hD hS (⟨by unfold lq_levelAt; rw [if_pos hk]; exact hO9.1, hO9.2⟩) dL_levelAt_6
set_option maxHeartbeats 4000000 in
set_option maxRecDepth 100000 in
theorem oL_span (l : Launch) (hst : l.stackTraces = false) (D : va_G) (y : Nat → ClassId) (sz at_ : Nat) {q : Lad} {us : List Lad} {sv : Option Lad} {rs dt ix lf : Int32} {M : Nat} {tx : Nat → Int32} {NN : Nat} {TT : Nat → Nat} (V : va_W) (p1 : Int32) (p2 : Int32) (hO : Ob y at_ q us sv rs dt ix lf M tx NN TT V) : vx_Met l yL_span wsL_span (rmx 12 400 4 24) (zlP D y V sz [.ref at_, .int p1, .int p2]) (oQi D y 0 (fun r V' => r = (lq_span q p1 p2) ∧ Ob y at_ q us sv rs dt ix lf M tx NN TT V') V sz) (oX D y 0 (fun _ => False) V sz) 4 24 (va_A V sz) := by
  refine vx_ofWH (cc := cL_span) (maxL := 4) (ret := (some .int)) (hh := [(0, 6, 7, 87), (0, 6, 12, 41), (0, 6, 17, 43)]) (by decide) rfl ?_
  intro p e s m args below meth c s₁ B hml hv
  obtain ⟨hav, hsz, hP, hK, hD0, hZ, hN, hJ⟩ := hv
  have hx := B.exec
  have hb := B.bytes
  have hr := B.returns
  have hts := atoms_spec (ws := wsL_span) B.pre
  have hown : s.vm.findClass RL = some m.cls := findClass_of_methodNamed B.named
  have hlocks := B.notSynchronized
  have htab := vx_table (x := yL_span) B (hts _ List.mem_cons_self)
  subst hsz
  have hD := hD0.self (sz := s.heap.size)
  obtain ⟨A, hAe⟩ : ∃ A : Nat → Prop, va_A V s.heap.size = A := ⟨_, rfl⟩
  rw [hAe] at hD hZ hJ
  have hA : ∀ q, s.heap.size ≤ q → A q := fun q h => by rw [← hAe]; exact Or.inr h
  have hS : va_S A s.heap s.heap [] := va_S.rf
  have hP : va_P D vwCl (V ++ []) s.heap := by rw [List.append_nil]; exact hP
  have hD : va_D A (V ++ []) := by rw [List.append_nil]; exact hD
  obtain ⟨fs, he⟩ := Ob_head hO
  refine W_q (R1 := (rmx 12 400 4 24)) rfl (fun Q0 hQ0 => ?_)
  refine W_entry hav (Nat.le_of_ble_eq_true rfl) (fun ls hl => ?_)
  have hl : lv_has ls 4 [(0, .ref at_), (1, .int p1), (2, .int p2)] := hl
  refine lv_aload_n hx hb dL_span_0 rfl (lv_at hl 0 rfl) ?_
  refine lv_iload_n hx hb dL_span_1 rfl (lv_at hl 1 rfl) ?_
  refine lv_iload_n hx hb dL_span_2 rfl (lv_at hl 2 rfl) ?_
  refine ow_V (As := [.int p1, .int p2]) (rest := []) ⟨hx, hb, hml, hown, hts⟩ (o_span l hst D y s.heap.size at_ V p1 p2 hO) (cwV 2 hts gL_span_X7_span rfl rfl rfl (by decide +kernel) ⟨(Nat.le_of_ble_eq_true rfl), (Nat.le_of_ble_eq_true rfl)⟩) he hK hP hD hS hA hZ hN hJ rfl hl.1 rfl (Nat.le_of_ble_eq_true rfl) dL_span_3 ⟨(Nat.le_of_ble_eq_true rfl), (Nat.le_of_ble_eq_true rfl)⟩ (fun hk V1 ce q9 H locs hO9 hP hD hS h1 h2 h3 => ?_) (fun hk r V1 H locs hO9 hP hD hS => ?_)
  · rcases (K_span (Ob_GL hO) (p1 := p1) (p2 := p2)) with h | h | h | h
    · exact absurd h hk
    · have h3 : s.vm.findClass (exn 3) = some ce.cls := by rw [← h]; exact h3
      refine vx_catch (own := RL) (E := "java/lang/IndexOutOfBoundsException") (name := "java/lang/IndexOutOfBoundsException") hown [] ⟨0, 6, 7, 87⟩ [⟨0, 6, 12, 41⟩, ⟨0, 6, 17, 43⟩] (htab.trans rfl) (List.forall_mem_nil _) (by decide) (by decide) (hts (.classLink RL 87 "java/lang/IndexOutOfBoundsException") (List.mem_of_getElem? (i := 1) rfl)) (va_Nw.use rfl (hZ.2.2.2 _ (by decide))) h1 h2 h3 ?_
      refine lv_astore_n (lv' := [(3, .ref q9), (0, .ref at_), (1, .int p1), (2, .int p2)]) hx hb dL_span_7 rfl hl (by decide) rfl (fun ls hl => ?_)
      refine lv_sipush (v := -1001) hx hb dL_span_8 (by decide) ?_
      rw [hQ0]
      exact oxret_i hx hb hr hlocks hAe hK hP hD hS (⟨by unfold lq_span; rw [h]; rfl, hO9⟩) dL_span_11
    · have h3 : s.vm.findClass (exn 1) = some ce.cls := by rw [← h]; exact h3
      refine vx_catch (own := RL) (E := "java/lang/IllegalArgumentException") (name := "java/lang/IllegalArgumentException") hown [⟨0, 6, 7, 87⟩] ⟨0, 6, 12, 41⟩ [⟨0, 6, 17, 43⟩] (htab.trans rfl) (List.forall_mem_cons.mpr ⟨Or.inr ⟨by decide, "java/lang/IndexOutOfBoundsException", (hts (.classLink RL 87 "java/lang/IndexOutOfBoundsException") (List.mem_of_getElem? (i := 1) rfl)), hN _ (show ("java/lang/IllegalArgumentException", "java/lang/IndexOutOfBoundsException") ∈ ncs by decide)⟩, List.forall_mem_nil _⟩) (by decide) (by decide) (hts (.classLink RL 41 "java/lang/IllegalArgumentException") (List.mem_of_getElem? (i := 2) rfl)) (va_Nw.use rfl (hZ.2.2.2 _ (by decide))) h1 h2 h3 ?_
      refine lv_astore_n (lv' := [(3, .ref q9), (0, .ref at_), (1, .int p1), (2, .int p2)]) hx hb dL_span_12 rfl hl (by decide) rfl (fun ls hl => ?_)
      refine lv_sipush (v := -1002) hx hb dL_span_13 (by decide) ?_
      rw [hQ0]
      exact oxret_i hx hb hr hlocks hAe hK hP hD hS (⟨by unfold lq_span; rw [h]; rfl, hO9⟩) dL_span_16
    · have h3 : s.vm.findClass (exn 2) = some ce.cls := by rw [← h]; exact h3
      refine vx_catch (own := RL) (E := "java/util/NoSuchElementException") (name := "java/util/NoSuchElementException") hown [⟨0, 6, 7, 87⟩, ⟨0, 6, 12, 41⟩] ⟨0, 6, 17, 43⟩ [] (htab.trans rfl) (List.forall_mem_cons.mpr ⟨Or.inr ⟨by decide, "java/lang/IndexOutOfBoundsException", (hts (.classLink RL 87 "java/lang/IndexOutOfBoundsException") (List.mem_of_getElem? (i := 1) rfl)), hN _ (show ("java/util/NoSuchElementException", "java/lang/IndexOutOfBoundsException") ∈ ncs by decide)⟩, List.forall_mem_cons.mpr ⟨Or.inr ⟨by decide, "java/lang/IllegalArgumentException", (hts (.classLink RL 41 "java/lang/IllegalArgumentException") (List.mem_of_getElem? (i := 2) rfl)), hN _ (show ("java/util/NoSuchElementException", "java/lang/IllegalArgumentException") ∈ ncs by decide)⟩, List.forall_mem_nil _⟩⟩) (by decide) (by decide) (hts (.classLink RL 43 "java/util/NoSuchElementException") (List.mem_of_getElem? (i := 3) rfl)) (va_Nw.use rfl (hZ.2.2.2 _ (by decide))) h1 h2 h3 ?_
      refine lv_astore_n (lv' := [(3, .ref q9), (0, .ref at_), (1, .int p1), (2, .int p2)]) hx hb dL_span_17 rfl hl (by decide) rfl (fun ls hl => ?_)
      refine lv_sipush (v := -1003) hx hb dL_span_18 (by decide) ?_
      rw [hQ0]
      exact oxret_i hx hb hr hlocks hAe hK hP hD hS (⟨by unfold lq_span; rw [h]; rfl, hO9⟩) dL_span_21
  · rw [hQ0]
    exact oxret_i hx hb hr hlocks hAe hK hP hD hS (⟨by unfold lq_span; rw [if_pos hk]; exact hO9.1, hO9.2⟩) dL_span_6
set_option maxHeartbeats 4000000 in
set_option maxRecDepth 100000 in
theorem oL_headSpan (l : Launch) (hst : l.stackTraces = false) (D : va_G) (y : Nat → ClassId) (sz at_ : Nat) {q : Lad} {us : List Lad} {sv : Option Lad} {rs dt ix lf : Int32} {M : Nat} {tx : Nat → Int32} {NN : Nat} {TT : Nat → Nat} (V : va_W) (p1 : Int32) (hO : Ob y at_ q us sv rs dt ix lf M tx NN TT V) : vx_Met l yL_headSpan wsL_headSpan (rmx 12 400 1 6) (zlP D y V sz [.ref at_, .int p1]) (oQi D y 0 (fun r V' => r = (lq_headSpan q p1) ∧ Ob y at_ q us sv rs dt ix lf M tx NN TT V') V sz) (oX D y 0 (fun _ => False) V sz) 1 6 (va_A V sz) := by
  refine vx_ofWH (cc := cL_headSpan) (maxL := 3) (ret := (some .int)) (hh := [(0, 5, 6, 87)]) (by decide) rfl ?_
  intro p e s m args below meth c s₁ B hml hv
  obtain ⟨hav, hsz, hP, hK, hD0, hZ, hN, hJ⟩ := hv
  have hx := B.exec
  have hb := B.bytes
  have hr := B.returns
  have hts := atoms_spec (ws := wsL_headSpan) B.pre
  have hown : s.vm.findClass RL = some m.cls := findClass_of_methodNamed B.named
  have hlocks := B.notSynchronized
  have htab := vx_table (x := yL_headSpan) B (hts _ List.mem_cons_self)
  subst hsz
  have hD := hD0.self (sz := s.heap.size)
  obtain ⟨A, hAe⟩ : ∃ A : Nat → Prop, va_A V s.heap.size = A := ⟨_, rfl⟩
  rw [hAe] at hD hZ hJ
  have hA : ∀ q, s.heap.size ≤ q → A q := fun q h => by rw [← hAe]; exact Or.inr h
  have hS : va_S A s.heap s.heap [] := va_S.rf
  have hP : va_P D vwCl (V ++ []) s.heap := by rw [List.append_nil]; exact hP
  have hD : va_D A (V ++ []) := by rw [List.append_nil]; exact hD
  obtain ⟨fs, he⟩ := Ob_head hO
  refine W_q (R1 := (rmx 12 400 1 6)) rfl (fun Q0 hQ0 => ?_)
  refine W_entry hav (Nat.le_of_ble_eq_true rfl) (fun ls hl => ?_)
  have hl : lv_has ls 3 [(0, .ref at_), (1, .int p1)] := hl
  refine lv_aload_n hx hb dL_headSpan_0 rfl (lv_at hl 0 rfl) ?_
  refine lv_iload_n hx hb dL_headSpan_1 rfl (lv_at hl 1 rfl) ?_
  refine ow_V (As := [.int p1]) (rest := []) ⟨hx, hb, hml, hown, hts⟩ (o_headSpan l hst D y s.heap.size at_ V p1 hO) (cwV 1 hts gL_headSpan_X7_headSpan rfl rfl rfl (by decide +kernel) ⟨(Nat.le_of_ble_eq_true rfl), (Nat.le_of_ble_eq_true rfl)⟩) he hK hP hD hS hA hZ hN hJ rfl hl.1 rfl (Nat.le_of_ble_eq_true rfl) dL_headSpan_2 ⟨(Nat.le_of_ble_eq_true rfl), (Nat.le_of_ble_eq_true rfl)⟩ (fun hk V1 ce q9 H locs hO9 hP hD hS h1 h2 h3 => ?_) (fun hk r V1 H locs hO9 hP hD hS => ?_)
  · rcases (K_headSpan (Ob_GL hO) (p1 := p1)) with h | h
    · exact absurd h hk
    · have h3 : s.vm.findClass (exn 3) = some ce.cls := by rw [← h]; exact h3
      refine vx_catch (own := RL) (E := "java/lang/IndexOutOfBoundsException") (name := "java/lang/IndexOutOfBoundsException") hown [] ⟨0, 5, 6, 87⟩ [] (htab.trans rfl) (List.forall_mem_nil _) (by decide) (by decide) (hts (.classLink RL 87 "java/lang/IndexOutOfBoundsException") (List.mem_of_getElem? (i := 1) rfl)) (va_Nw.use rfl (hZ.2.2.2 _ (by decide))) h1 h2 h3 ?_
      refine lv_astore_n (lv' := [(2, .ref q9), (0, .ref at_), (1, .int p1)]) hx hb dL_headSpan_6 rfl hl (by decide) rfl (fun ls hl => ?_)
      refine lv_sipush (v := -1001) hx hb dL_headSpan_7 (by decide) ?_
      rw [hQ0]
      exact oxret_i hx hb hr hlocks hAe hK hP hD hS (⟨by unfold lq_headSpan; rw [h]; rfl, hO9⟩) dL_headSpan_10
  · rw [hQ0]
    exact oxret_i hx hb hr hlocks hAe hK hP hD hS (⟨by unfold lq_headSpan; rw [if_pos hk]; exact hO9.1, hO9.2⟩) dL_headSpan_5
set_option maxHeartbeats 4000000 in
set_option maxRecDepth 100000 in
theorem oL_forgotten (l : Launch) (hst : l.stackTraces = false) (D : va_G) (y : Nat → ClassId) (sz at_ : Nat) {q : Lad} {us : List Lad} {sv : Option Lad} {rs dt ix lf : Int32} {M : Nat} {tx : Nat → Int32} {NN : Nat} {TT : Nat → Nat} (V : va_W) (p1 : Int32) (hO : Ob y at_ q us sv rs dt ix lf M tx NN TT V) : vx_Met l yL_forgotten wsL_forgotten (rmx 12 400 1 6) (zlP D y V sz [.ref at_, .int p1]) (oQi D y 0 (fun r V' => r = (lq_isForgotten q p1) ∧ Ob y at_ q us sv rs dt ix lf M tx NN TT V') V sz) (oX D y 0 (fun _ => False) V sz) 1 6 (va_A V sz) := by
  refine vx_ofWH (cc := cL_forgotten) (maxL := 3) (ret := (some .int)) (hh := [(0, 13, 14, 87)]) (by decide) rfl ?_
  intro p e s m args below meth c s₁ B hml hv
  obtain ⟨hav, hsz, hP, hK, hD0, hZ, hN, hJ⟩ := hv
  have hx := B.exec
  have hb := B.bytes
  have hr := B.returns
  have hts := atoms_spec (ws := wsL_forgotten) B.pre
  have hown : s.vm.findClass RL = some m.cls := findClass_of_methodNamed B.named
  have hlocks := B.notSynchronized
  have htab := vx_table (x := yL_forgotten) B (hts _ List.mem_cons_self)
  subst hsz
  have hD := hD0.self (sz := s.heap.size)
  obtain ⟨A, hAe⟩ : ∃ A : Nat → Prop, va_A V s.heap.size = A := ⟨_, rfl⟩
  rw [hAe] at hD hZ hJ
  have hA : ∀ q, s.heap.size ≤ q → A q := fun q h => by rw [← hAe]; exact Or.inr h
  have hS : va_S A s.heap s.heap [] := va_S.rf
  have hP : va_P D vwCl (V ++ []) s.heap := by rw [List.append_nil]; exact hP
  have hD : va_D A (V ++ []) := by rw [List.append_nil]; exact hD
  obtain ⟨fs, he⟩ := Ob_head hO
  refine W_q (R1 := (rmx 12 400 1 6)) rfl (fun Q0 hQ0 => ?_)
  refine W_entry hav (Nat.le_of_ble_eq_true rfl) (fun ls hl => ?_)
  have hl : lv_has ls 3 [(0, .ref at_), (1, .int p1)] := hl
  refine lv_aload_n hx hb dL_forgotten_0 rfl (lv_at hl 0 rfl) ?_
  refine lv_iload_n hx hb dL_forgotten_1 rfl (lv_at hl 1 rfl) ?_
  refine ow_V (As := [.int p1]) (rest := []) ⟨hx, hb, hml, hown, hts⟩ (o_isForgotten l hst D y s.heap.size at_ V p1 hO) (cwV 1 hts gL_forgotten_X7_isForgotten rfl rfl rfl (by decide +kernel) ⟨(Nat.le_of_ble_eq_true rfl), (Nat.le_of_ble_eq_true rfl)⟩) he hK hP hD hS hA hZ hN hJ rfl hl.1 rfl (Nat.le_of_ble_eq_true rfl) dL_forgotten_2 ⟨(Nat.le_of_ble_eq_true rfl), (Nat.le_of_ble_eq_true rfl)⟩ (fun hk V1 ce q9 H locs hO9 hP hD hS h1 h2 h3 => ?_) (fun hk r V1 H locs hO9 hP hD hS => ?_)
  · rcases (K_isForgotten (Ob_GL hO) (p1 := p1)) with h | h
    · exact absurd h hk
    · have h3 : s.vm.findClass (exn 3) = some ce.cls := by rw [← h]; exact h3
      refine vx_catch (own := RL) (E := "java/lang/IndexOutOfBoundsException") (name := "java/lang/IndexOutOfBoundsException") hown [] ⟨0, 13, 14, 87⟩ [] (htab.trans rfl) (List.forall_mem_nil _) (by decide) (by decide) (hts (.classLink RL 87 "java/lang/IndexOutOfBoundsException") (List.mem_of_getElem? (i := 1) rfl)) (va_Nw.use rfl (hZ.2.2.2 _ (by decide))) h1 h2 h3 ?_
      refine lv_astore_n (lv' := [(2, .ref q9), (0, .ref at_), (1, .int p1)]) hx hb dL_forgotten_14 rfl hl (by decide) rfl (fun ls hl => ?_)
      refine lv_sipush (v := -1001) hx hb dL_forgotten_15 (by decide) ?_
      rw [hQ0]
      exact oxret_i hx hb hr hlocks hAe hK hP hD hS (⟨by unfold lq_isForgotten; rw [h]; rfl, hO9⟩) dL_forgotten_18
  · refine lv_if_eq (tgt := 12) hx hb dL_forgotten_5 (by decide) (fun c0 => ?_) (fun c0 => ?_)
    · refine lv_iconst (v := 0) hx hb dL_forgotten_12 (by decide) ?_
      rw [hQ0]
      exact oxret_i hx hb hr hlocks hAe hK hP hD hS (⟨by unfold lq_isForgotten; rw [if_pos hk, if_pos (hO9.1 ▸ c0)], hO9.2⟩) dL_forgotten_13
    · refine lv_iconst (v := 1) hx hb dL_forgotten_8 (by decide) ?_
      refine lv_goto (tgt := 13) hx hb dL_forgotten_9 (by decide) ?_
      rw [hQ0]
      exact oxret_i hx hb hr hlocks hAe hK hP hD hS (⟨by unfold lq_isForgotten; rw [if_pos hk, if_neg (hO9.1 ▸ c0)], hO9.2⟩) dL_forgotten_13
set_option maxHeartbeats 4000000 in
set_option maxRecDepth 100000 in
theorem oL_longestSearch (l : Launch) (hst : l.stackTraces = false) (D : va_G) (y : Nat → ClassId) (sz at_ : Nat) {q : Lad} {us : List Lad} {sv : Option Lad} {rs dt ix lf : Int32} {M : Nat} {tx : Nat → Int32} {NN : Nat} {TT : Nat → Nat} (V : va_W) (hO : Ob y at_ q us sv rs dt ix lf M tx NN TT V) : vx_Met l yL_longestSearch wsL_longestSearch (rmx 12 400 1 6) (zlP D y V sz [.ref at_]) (oQi D y 0 (fun r V' => r = (lq_longestSearch q) ∧ Ob y at_ q us sv rs dt ix lf M tx NN TT V') V sz) (oX D y 0 (fun _ => False) V sz) 1 6 (va_A V sz) := by
  refine vx_ofWH (cc := cL_longestSearch) (maxL := 2) (ret := (some .int)) (hh := [(0, 4, 5, 43)]) (by decide) rfl ?_
  intro p e s m args below meth c s₁ B hml hv
  obtain ⟨hav, hsz, hP, hK, hD0, hZ, hN, hJ⟩ := hv
  have hx := B.exec
  have hb := B.bytes
  have hr := B.returns
  have hts := atoms_spec (ws := wsL_longestSearch) B.pre
  have hown : s.vm.findClass RL = some m.cls := findClass_of_methodNamed B.named
  have hlocks := B.notSynchronized
  have htab := vx_table (x := yL_longestSearch) B (hts _ List.mem_cons_self)
  subst hsz
  have hD := hD0.self (sz := s.heap.size)
  obtain ⟨A, hAe⟩ : ∃ A : Nat → Prop, va_A V s.heap.size = A := ⟨_, rfl⟩
  rw [hAe] at hD hZ hJ
  have hA : ∀ q, s.heap.size ≤ q → A q := fun q h => by rw [← hAe]; exact Or.inr h
  have hS : va_S A s.heap s.heap [] := va_S.rf
  have hP : va_P D vwCl (V ++ []) s.heap := by rw [List.append_nil]; exact hP
  have hD : va_D A (V ++ []) := by rw [List.append_nil]; exact hD
  obtain ⟨fs, he⟩ := Ob_head hO
  refine W_q (R1 := (rmx 12 400 1 6)) rfl (fun Q0 hQ0 => ?_)
  refine W_entry hav (Nat.le_of_ble_eq_true rfl) (fun ls hl => ?_)
  have hl : lv_has ls 2 [(0, .ref at_)] := hl
  refine lv_aload_n hx hb dL_longestSearch_0 rfl (lv_at hl 0 rfl) ?_
  refine ow_V (As := []) (rest := []) ⟨hx, hb, hml, hown, hts⟩ (o_longestSearch l hst D y s.heap.size at_ V hO) (cwV 0 hts gL_longestSearch_X7_longestSearch rfl rfl rfl (by decide +kernel) ⟨(Nat.le_of_ble_eq_true rfl), (Nat.le_of_ble_eq_true rfl)⟩) he hK hP hD hS hA hZ hN hJ rfl hl.1 rfl (Nat.le_of_ble_eq_true rfl) dL_longestSearch_1 ⟨(Nat.le_of_ble_eq_true rfl), (Nat.le_of_ble_eq_true rfl)⟩ (fun hk V1 ce q9 H locs hO9 hP hD hS h1 h2 h3 => ?_) (fun hk r V1 H locs hO9 hP hD hS => ?_)
  · rcases (K_longestSearch (Ob_GL hO)) with h | h
    · exact absurd h hk
    · have h3 : s.vm.findClass (exn 2) = some ce.cls := by rw [← h]; exact h3
      refine vx_catch (own := RL) (E := "java/util/NoSuchElementException") (name := "java/util/NoSuchElementException") hown [] ⟨0, 4, 5, 43⟩ [] (htab.trans rfl) (List.forall_mem_nil _) (by decide) (by decide) (hts (.classLink RL 43 "java/util/NoSuchElementException") (List.mem_of_getElem? (i := 1) rfl)) (va_Nw.use rfl (hZ.2.2.2 _ (by decide))) h1 h2 h3 ?_
      refine lv_astore_n (lv' := [(1, .ref q9), (0, .ref at_)]) hx hb dL_longestSearch_5 rfl hl (by decide) rfl (fun ls hl => ?_)
      refine lv_sipush (v := -1001) hx hb dL_longestSearch_6 (by decide) ?_
      rw [hQ0]
      exact oxret_i hx hb hr hlocks hAe hK hP hD hS (⟨by unfold lq_longestSearch; rw [h]; rfl, hO9⟩) dL_longestSearch_9
  · rw [hQ0]
    exact oxret_i hx hb hr hlocks hAe hK hP hD hS (⟨by unfold lq_longestSearch; rw [if_pos hk]; exact hO9.1, hO9.2⟩) dL_longestSearch_4
set_option maxHeartbeats 4000000 in
set_option maxRecDepth 100000 in
theorem oL_account (l : Launch) (hst : l.stackTraces = false) (D : va_G) (y : Nat → ClassId) (sz at_ : Nat) {q : Lad} {us : List Lad} {sv : Option Lad} {rs dt ix lf : Int32} {M : Nat} {tx : Nat → Int32} {NN : Nat} {TT : Nat → Nat} (V : va_W) (p1 : Int32) (hO : Ob y at_ q us sv rs dt ix lf M tx NN TT V) : vx_Met l yL_account wsL_account (rmx 12 400 1 6) (zlP D y V sz [.ref at_, .int p1]) (oQi D y 0 (fun r V' => r = (lq_account q (nI us.length) (nI M) p1) ∧ Ob y at_ q us sv rs dt ix lf M tx NN TT V') V sz) (oX D y 0 (fun _ => False) V sz) 1 6 (va_A V sz) := by
  refine vx_ofWH (cc := cL_account) (maxL := 3) (ret := (some .int)) (hh := [(0, 5, 6, 41)]) (by decide) rfl ?_
  intro p e s m args below meth c s₁ B hml hv
  obtain ⟨hav, hsz, hP, hK, hD0, hZ, hN, hJ⟩ := hv
  have hx := B.exec
  have hb := B.bytes
  have hr := B.returns
  have hts := atoms_spec (ws := wsL_account) B.pre
  have hown : s.vm.findClass RL = some m.cls := findClass_of_methodNamed B.named
  have hlocks := B.notSynchronized
  have htab := vx_table (x := yL_account) B (hts _ List.mem_cons_self)
  subst hsz
  have hD := hD0.self (sz := s.heap.size)
  obtain ⟨A, hAe⟩ : ∃ A : Nat → Prop, va_A V s.heap.size = A := ⟨_, rfl⟩
  rw [hAe] at hD hZ hJ
  have hA : ∀ q, s.heap.size ≤ q → A q := fun q h => by rw [← hAe]; exact Or.inr h
  have hS : va_S A s.heap s.heap [] := va_S.rf
  have hP : va_P D vwCl (V ++ []) s.heap := by rw [List.append_nil]; exact hP
  have hD : va_D A (V ++ []) := by rw [List.append_nil]; exact hD
  obtain ⟨fs, he⟩ := Ob_head hO
  refine W_q (R1 := (rmx 12 400 1 6)) rfl (fun Q0 hQ0 => ?_)
  refine W_entry hav (Nat.le_of_ble_eq_true rfl) (fun ls hl => ?_)
  have hl : lv_has ls 3 [(0, .ref at_), (1, .int p1)] := hl
  refine lv_aload_n hx hb dL_account_0 rfl (lv_at hl 0 rfl) ?_
  refine lv_iload_n hx hb dL_account_1 rfl (lv_at hl 1 rfl) ?_
  refine ow_V (As := [.int p1]) (rest := []) ⟨hx, hb, hml, hown, hts⟩ (o_account l hst D y s.heap.size at_ V p1 hO) (cwV 1 hts gL_account_X7_account rfl rfl rfl (by decide +kernel) ⟨(Nat.le_of_ble_eq_true rfl), (Nat.le_of_ble_eq_true rfl)⟩) he hK hP hD hS hA hZ hN hJ rfl hl.1 rfl (Nat.le_of_ble_eq_true rfl) dL_account_2 ⟨(Nat.le_of_ble_eq_true rfl), (Nat.le_of_ble_eq_true rfl)⟩ (fun hk V1 ce q9 H locs hO9 hP hD hS h1 h2 h3 => ?_) (fun hk r V1 H locs hO9 hP hD hS => ?_)
  · rcases (K_account (Ob_GL hO) (u := nI us.length) (le := nI M) (p1 := p1)) with h | h
    · exact absurd h hk
    · have h3 : s.vm.findClass (exn 1) = some ce.cls := by rw [← h]; exact h3
      refine vx_catch (own := RL) (E := "java/lang/IllegalArgumentException") (name := "java/lang/IllegalArgumentException") hown [] ⟨0, 5, 6, 41⟩ [] (htab.trans rfl) (List.forall_mem_nil _) (by decide) (by decide) (hts (.classLink RL 41 "java/lang/IllegalArgumentException") (List.mem_of_getElem? (i := 1) rfl)) (va_Nw.use rfl (hZ.2.2.2 _ (by decide))) h1 h2 h3 ?_
      refine lv_astore_n (lv' := [(2, .ref q9), (0, .ref at_), (1, .int p1)]) hx hb dL_account_6 rfl hl (by decide) rfl (fun ls hl => ?_)
      refine lv_sipush (v := -1001) hx hb dL_account_7 (by decide) ?_
      rw [hQ0]
      exact oxret_i hx hb hr hlocks hAe hK hP hD hS (⟨by unfold lq_account; rw [h]; rfl, hO9⟩) dL_account_10
  · rw [hQ0]
    exact oxret_i hx hb hr hlocks hAe hK hP hD hS (⟨by unfold lq_account; rw [if_pos hk]; exact hO9.1, hO9.2⟩) dL_account_5
set_option maxHeartbeats 4000000 in
set_option maxRecDepth 100000 in
theorem oL_meanSteps (l : Launch) (hst : l.stackTraces = false) (D : va_G) (y : Nat → ClassId) (sz at_ : Nat) {q : Lad} {us : List Lad} {sv : Option Lad} {rs dt ix lf : Int32} {M : Nat} {tx : Nat → Int32} {NN : Nat} {TT : Nat → Nat} (V : va_W) (hO : Ob y at_ q us sv rs dt ix lf M tx NN TT V) : vx_Met l yL_meanSteps wsL_meanSteps (rmx 12 400 1 6) (zlP D y V sz [.ref at_]) (oQd D y 0 (fun r V' => r = (lq_meanSteps q) ∧ Ob y at_ q us sv rs dt ix lf M tx NN TT V') V sz) (oX D y 0 (fun _ => False) V sz) 1 6 (va_A V sz) := by
  refine vx_ofWH (cc := cL_meanSteps) (maxL := 2) (ret := (some .double)) (hh := [(0, 4, 5, 129)]) (by decide) rfl ?_
  intro p e s m args below meth c s₁ B hml hv
  obtain ⟨hav, hsz, hP, hK, hD0, hZ, hN, hJ⟩ := hv
  have hx := B.exec
  have hb := B.bytes
  have hr := B.returns
  have hts := atoms_spec (ws := wsL_meanSteps) B.pre
  have hown : s.vm.findClass RL = some m.cls := findClass_of_methodNamed B.named
  have hlocks := B.notSynchronized
  have htab := vx_table (x := yL_meanSteps) B (hts _ List.mem_cons_self)
  subst hsz
  have hD := hD0.self (sz := s.heap.size)
  obtain ⟨A, hAe⟩ : ∃ A : Nat → Prop, va_A V s.heap.size = A := ⟨_, rfl⟩
  rw [hAe] at hD hZ hJ
  have hA : ∀ q, s.heap.size ≤ q → A q := fun q h => by rw [← hAe]; exact Or.inr h
  have hS : va_S A s.heap s.heap [] := va_S.rf
  have hP : va_P D vwCl (V ++ []) s.heap := by rw [List.append_nil]; exact hP
  have hD : va_D A (V ++ []) := by rw [List.append_nil]; exact hD
  obtain ⟨fs, he⟩ := Ob_head hO
  refine W_q (R1 := (rmx 12 400 1 6)) rfl (fun Q0 hQ0 => ?_)
  refine W_entry hav (Nat.le_of_ble_eq_true rfl) (fun ls hl => ?_)
  have hl : lv_has ls 2 [(0, .ref at_)] := hl
  refine lv_aload_n hx hb dL_meanSteps_0 rfl (lv_at hl 0 rfl) ?_
  refine ow_Vd (As := []) (rest := []) ⟨hx, hb, hml, hown, hts⟩ (o_meanSteps l hst D y s.heap.size at_ V hO) (cwV 0 hts gL_meanSteps_X7_meanSteps rfl rfl rfl (by decide +kernel) ⟨(Nat.le_of_ble_eq_true rfl), (Nat.le_of_ble_eq_true rfl)⟩) he hK hP hD hS hA hZ hN hJ rfl hl.1 rfl (Nat.le_of_ble_eq_true rfl) dL_meanSteps_1 ⟨(Nat.le_of_ble_eq_true rfl), (Nat.le_of_ble_eq_true rfl)⟩ (fun hk V1 ce q9 H locs hO9 hP hD hS h1 h2 h3 => ?_) (fun hk r V1 H locs hO9 hP hD hS => ?_)
  · rcases (K_meanSteps (Ob_GL hO)) with h | h
    · exact absurd h hk
    · have h3 : s.vm.findClass (exn 6) = some ce.cls := by rw [← h]; exact h3
      refine vx_catch (own := RL) (E := "java/lang/ArithmeticException") (name := "java/lang/ArithmeticException") hown [] ⟨0, 4, 5, 129⟩ [] (htab.trans rfl) (List.forall_mem_nil _) (by decide) (by decide) (hts (.classLink RL 129 "java/lang/ArithmeticException") (List.mem_of_getElem? (i := 1) rfl)) (va_Nw.use rfl (hZ.2.2.2 _ (by decide))) h1 h2 h3 ?_
      refine lv_astore_n (lv' := [(1, .ref q9), (0, .ref at_)]) hx hb dL_meanSteps_5 rfl hl (by decide) rfl (fun ls hl => ?_)
      refine lv_ldc2d (v := 13875388141788987392) hx hb hown (hts (.constantDouble RL 131 (13875388141788987392)) (List.mem_of_getElem? (i := 2) rfl)) dL_meanSteps_6 ?_
      rw [hQ0]
      exact oxret_d hx hb hr hlocks hAe hK hP hD hS (⟨by unfold lq_meanSteps; rw [h]; rfl, hO9⟩) dL_meanSteps_9
  · rw [hQ0]
    exact oxret_d hx hb hr hlocks hAe hK hP hD hS (⟨by unfold lq_meanSteps; rw [if_pos hk]; exact hO9.1, hO9.2⟩) dL_meanSteps_4
set_option maxHeartbeats 4000000 in
set_option maxRecDepth 100000 in
theorem oL_meanRungs (l : Launch) (hst : l.stackTraces = false) (D : va_G) (y : Nat → ClassId) (sz at_ : Nat) {q : Lad} {us : List Lad} {sv : Option Lad} {rs dt ix lf : Int32} {M : Nat} {tx : Nat → Int32} {NN : Nat} {TT : Nat → Nat} (V : va_W) (hO : Ob y at_ q us sv rs dt ix lf M tx NN TT V) : vx_Met l yL_meanRungs wsL_meanRungs (rmx 12 400 1 6) (zlP D y V sz [.ref at_]) (oQf D y 0 (fun r V' => r = (lq_meanRungs q) ∧ Ob y at_ q us sv rs dt ix lf M tx NN TT V') V sz) (oX D y 0 (fun _ => False) V sz) 1 6 (va_A V sz) := by
  refine vx_ofWH (cc := cL_meanRungs) (maxL := 2) (ret := (some .float)) (hh := [(0, 4, 5, 129)]) (by decide) rfl ?_
  intro p e s m args below meth c s₁ B hml hv
  obtain ⟨hav, hsz, hP, hK, hD0, hZ, hN, hJ⟩ := hv
  have hx := B.exec
  have hb := B.bytes
  have hr := B.returns
  have hts := atoms_spec (ws := wsL_meanRungs) B.pre
  have hown : s.vm.findClass RL = some m.cls := findClass_of_methodNamed B.named
  have hlocks := B.notSynchronized
  have htab := vx_table (x := yL_meanRungs) B (hts _ List.mem_cons_self)
  subst hsz
  have hD := hD0.self (sz := s.heap.size)
  obtain ⟨A, hAe⟩ : ∃ A : Nat → Prop, va_A V s.heap.size = A := ⟨_, rfl⟩
  rw [hAe] at hD hZ hJ
  have hA : ∀ q, s.heap.size ≤ q → A q := fun q h => by rw [← hAe]; exact Or.inr h
  have hS : va_S A s.heap s.heap [] := va_S.rf
  have hP : va_P D vwCl (V ++ []) s.heap := by rw [List.append_nil]; exact hP
  have hD : va_D A (V ++ []) := by rw [List.append_nil]; exact hD
  obtain ⟨fs, he⟩ := Ob_head hO
  refine W_q (R1 := (rmx 12 400 1 6)) rfl (fun Q0 hQ0 => ?_)
  refine W_entry hav (Nat.le_of_ble_eq_true rfl) (fun ls hl => ?_)
  have hl : lv_has ls 2 [(0, .ref at_)] := hl
  refine lv_aload_n hx hb dL_meanRungs_0 rfl (lv_at hl 0 rfl) ?_
  refine ow_Vf (As := []) (rest := []) ⟨hx, hb, hml, hown, hts⟩ (o_meanRungs l hst D y s.heap.size at_ V hO) (cwV 0 hts gL_meanRungs_X7_meanRungs rfl rfl rfl (by decide +kernel) ⟨(Nat.le_of_ble_eq_true rfl), (Nat.le_of_ble_eq_true rfl)⟩) he hK hP hD hS hA hZ hN hJ rfl hl.1 rfl (Nat.le_of_ble_eq_true rfl) dL_meanRungs_1 ⟨(Nat.le_of_ble_eq_true rfl), (Nat.le_of_ble_eq_true rfl)⟩ (fun hk V1 ce q9 H locs hO9 hP hD hS h1 h2 h3 => ?_) (fun hk r V1 H locs hO9 hP hD hS => ?_)
  · rcases (K_meanRungs (Ob_GL hO)) with h | h
    · exact absurd h hk
    · have h3 : s.vm.findClass (exn 6) = some ce.cls := by rw [← h]; exact h3
      refine vx_catch (own := RL) (E := "java/lang/ArithmeticException") (name := "java/lang/ArithmeticException") hown [] ⟨0, 4, 5, 129⟩ [] (htab.trans rfl) (List.forall_mem_nil _) (by decide) (by decide) (hts (.classLink RL 129 "java/lang/ArithmeticException") (List.mem_of_getElem? (i := 1) rfl)) (va_Nw.use rfl (hZ.2.2.2 _ (by decide))) h1 h2 h3 ?_
      refine lv_astore_n (lv' := [(1, .ref q9), (0, .ref at_)]) hx hb dL_meanRungs_5 rfl hl (by decide) rfl (fun ls hl => ?_)
      refine lv_ldcf (v := 3296346112) hx hb hown (hts (.constantFloat RL 137 (3296346112)) (List.mem_of_getElem? (i := 2) rfl)) dL_meanRungs_6 ?_
      rw [hQ0]
      exact oxret_f hx hb hr hlocks hAe hK hP hD hS (⟨by unfold lq_meanRungs; rw [h]; rfl, hO9⟩) dL_meanRungs_8
  · rw [hQ0]
    exact oxret_f hx hb hr hlocks hAe hK hP hD hS (⟨by unfold lq_meanRungs; rw [if_pos hk]; exact hO9.1, hO9.2⟩) dL_meanRungs_4
