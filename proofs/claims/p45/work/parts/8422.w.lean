/-! the law's changes -/
set_option maxHeartbeats 4000000 in
set_option maxRecDepth 100000 in
theorem oL_file (l : Launch) (hst : l.stackTraces = false) (D : va_G) (y : Nat → ClassId) (sz at_ : Nat) {q : Lad} {us : List Lad} {sv : Option Lad} {rs dt ix lf : Int32} {M : Nat} {tx : Nat → Int32} {NN : Nat} {TT : Nat → Nat} (V : va_W) (p1 : Int32) (p2 : Int32) (hO : Ob y at_ q us sv rs dt ix lf M tx NN TT V) : vx_Met l yL_file wsL_file (rmx 12 400 1 6) (zlP D y V sz [.ref at_, .int p1, .int p2]) (oQi D y 0 (fun r V' => ((ordR q 43 p1 p2 1).1 = 0 ∧ r = (ordC q 43 p1 p2 1).1 ∧ 0 ≤ r ∧ GL (ordC q 43 p1 p2 1).2 ∧ Ob y at_ ((ordC q 43 p1 p2 1).2) (push q us) sv rs dt ix lf M tx NN TT V') ∨ ((ordR q 43 p1 p2 1).1 ≠ 0 ∧ r = -1001 ∧ Ob y at_ q us sv ((ordR q 43 p1 p2 1).1) ((ordR q 43 p1 p2 1).2) 0 lf M tx NN TT V')) V sz) (oX D y 0 (fun _ => False) V sz) 1 6 (va_A V sz) := by
  refine vx_ofWH (cc := cL_file) (maxL := 4) (ret := (some .int)) (hh := [(0, 6, 7, 13)]) (by decide) rfl ?_
  intro p e s m args below meth c s₁ B hml hv
  obtain ⟨hav, hsz, hP, hK, hD0, hZ, hN, hJ⟩ := hv
  have hx := B.exec
  have hb := B.bytes
  have hr := B.returns
  have hts := atoms_spec (ws := wsL_file) B.pre
  have hown : s.vm.findClass RL = some m.cls := findClass_of_methodNamed B.named
  have hlocks := B.notSynchronized
  have htab := vx_table (x := yL_file) B (hts _ List.mem_cons_self)
  subst hsz
  have hD := hD0.self (sz := s.heap.size)
  obtain ⟨A, hAe⟩ : ∃ A : Nat → Prop, va_A V s.heap.size = A := ⟨_, rfl⟩
  rw [hAe] at hD hZ hJ
  have hA : ∀ q, s.heap.size ≤ q → A q := fun q h => by rw [← hAe]; exact Or.inr h
  have hS : va_S A s.heap s.heap [] := va_S.rf
  have hP : va_P D vwCl (V ++ []) s.heap := by rw [List.append_nil]; exact hP
  have hD : va_D A (V ++ []) := by rw [List.append_nil]; exact hD
  obtain ⟨fs, he⟩ := Ob_head hO
  refine W_q (R1 := (rmx 12 400 1 6)) rfl (fun Q0 hQ0 => ?_)
  refine W_entry hav (Nat.le_of_ble_eq_true rfl) (fun ls hl => ?_)
  have hl : lv_has ls 4 [(0, .ref at_), (1, .int p1), (2, .int p2)] := hl
  refine lv_aload_n hx hb dL_file_0 rfl (lv_at hl 0 rfl) ?_
  refine lv_iload_n hx hb dL_file_1 rfl (lv_at hl 1 rfl) ?_
  refine lv_iload_n hx hb dL_file_2 rfl (lv_at hl 2 rfl) ?_
  refine ow_V (As := [.int p1, .int p2]) (rest := []) ⟨hx, hb, hml, hown, hts⟩ (o_file l hst D y s.heap.size at_ V p1 p2 hO) (cwV 2 hts gL_file_X7_file rfl rfl rfl (by decide +kernel) ⟨(Nat.le_of_ble_eq_true rfl), (Nat.le_of_ble_eq_true rfl)⟩) he hK hP hD hS hA hZ hN hJ rfl hl.1 rfl (Nat.le_of_ble_eq_true rfl) dL_file_3 ⟨(Nat.le_of_ble_eq_true rfl), (Nat.le_of_ble_eq_true rfl)⟩ (fun hk V1 ce q9 H locs hO9 hP hD hS h1 h2 h3 => ?_) (fun hk r V1 H locs hO9 hP hD hS => ?_)
  · rcases (ite04 (c := (ordR q 43 p1 p2 1).1 = 0)) with h | h
    · exact absurd h hk
    · have h3 : s.vm.findClass (exn 4) = some ce.cls := by rw [← h]; exact h3
      refine vx_catch (own := RL) (E := "java/lang/UnsupportedOperationException") (name := "java/lang/UnsupportedOperationException") hown [] ⟨0, 6, 7, 13⟩ [] (htab.trans rfl) (List.forall_mem_nil _) (by decide) (by decide) (hts (.classLink RL 13 "java/lang/UnsupportedOperationException") (List.mem_of_getElem? (i := 1) rfl)) (va_Nw.use rfl (hZ.2.2.2 _ (by decide))) h1 h2 h3 ?_
      refine lv_astore_n (lv' := [(3, .ref q9), (0, .ref at_), (1, .int p1), (2, .int p2)]) hx hb dL_file_7 rfl hl (by decide) rfl (fun ls hl => ?_)
      refine lv_sipush (v := -1001) hx hb dL_file_8 (by decide) ?_
      rw [hQ0]
      exact oxret_i hx hb hr hlocks hAe hK hP hD hS (Or.inr ⟨hO9.1, rfl, hO9.2⟩) dL_file_11
  · rw [hQ0]
    exact oxret_i hx hb hr hlocks hAe hK hP hD hS (Or.inl ⟨hO9.2.2.1, hO9.1, hO9.2.1, hO9.2.2.2.1, hO9.2.2.2.2⟩) dL_file_6
set_option maxHeartbeats 4000000 in
set_option maxRecDepth 100000 in
theorem oL_fileTall (l : Launch) (hst : l.stackTraces = false) (D : va_G) (y : Nat → ClassId) (sz at_ : Nat) {q : Lad} {us : List Lad} {sv : Option Lad} {rs dt ix lf : Int32} {M : Nat} {tx : Nat → Int32} {NN : Nat} {TT : Nat → Nat} (V : va_W) (p1 : Int32) (p2 : Int32) (p3 : Int32) (hO : Ob y at_ q us sv rs dt ix lf M tx NN TT V) : vx_Met l yL_fileTall wsL_fileTall (rmx 12 400 1 6) (zlP D y V sz [.ref at_, .int p1, .int p2, .int p3]) (oQi D y 0 (fun r V' => ((ordR q 94 p1 p2 p3).1 = 0 ∧ r = (ordC q 94 p1 p2 p3).1 ∧ 0 ≤ r ∧ GL (ordC q 94 p1 p2 p3).2 ∧ Ob y at_ ((ordC q 94 p1 p2 p3).2) (push q us) sv rs dt ix lf M tx NN TT V') ∨ ((ordR q 94 p1 p2 p3).1 ≠ 0 ∧ r = -1001 ∧ Ob y at_ q us sv ((ordR q 94 p1 p2 p3).1) ((ordR q 94 p1 p2 p3).2) 0 lf M tx NN TT V')) V sz) (oX D y 0 (fun _ => False) V sz) 1 6 (va_A V sz) := by
  refine vx_ofWH (cc := cL_fileTall) (maxL := 5) (ret := (some .int)) (hh := [(0, 7, 8, 13)]) (by decide) rfl ?_
  intro p e s m args below meth c s₁ B hml hv
  obtain ⟨hav, hsz, hP, hK, hD0, hZ, hN, hJ⟩ := hv
  have hx := B.exec
  have hb := B.bytes
  have hr := B.returns
  have hts := atoms_spec (ws := wsL_fileTall) B.pre
  have hown : s.vm.findClass RL = some m.cls := findClass_of_methodNamed B.named
  have hlocks := B.notSynchronized
  have htab := vx_table (x := yL_fileTall) B (hts _ List.mem_cons_self)
  subst hsz
  have hD := hD0.self (sz := s.heap.size)
  obtain ⟨A, hAe⟩ : ∃ A : Nat → Prop, va_A V s.heap.size = A := ⟨_, rfl⟩
  rw [hAe] at hD hZ hJ
  have hA : ∀ q, s.heap.size ≤ q → A q := fun q h => by rw [← hAe]; exact Or.inr h
  have hS : va_S A s.heap s.heap [] := va_S.rf
  have hP : va_P D vwCl (V ++ []) s.heap := by rw [List.append_nil]; exact hP
  have hD : va_D A (V ++ []) := by rw [List.append_nil]; exact hD
  obtain ⟨fs, he⟩ := Ob_head hO
  refine W_q (R1 := (rmx 12 400 1 6)) rfl (fun Q0 hQ0 => ?_)
  refine W_entry hav (Nat.le_of_ble_eq_true rfl) (fun ls hl => ?_)
  have hl : lv_has ls 5 [(0, .ref at_), (1, .int p1), (2, .int p2), (3, .int p3)] := hl
  refine lv_aload_n hx hb dL_fileTall_0 rfl (lv_at hl 0 rfl) ?_
  refine lv_iload_n hx hb dL_fileTall_1 rfl (lv_at hl 1 rfl) ?_
  refine lv_iload_n hx hb dL_fileTall_2 rfl (lv_at hl 2 rfl) ?_
  refine lv_iload_n hx hb dL_fileTall_3 rfl (lv_at hl 3 rfl) ?_
  refine ow_V (As := [.int p1, .int p2, .int p3]) (rest := []) ⟨hx, hb, hml, hown, hts⟩ (o_fileTall l hst D y s.heap.size at_ V p1 p2 p3 hO) (cwV 3 hts gL_fileTall_X7_fileTall rfl rfl rfl (by decide +kernel) ⟨(Nat.le_of_ble_eq_true rfl), (Nat.le_of_ble_eq_true rfl)⟩) he hK hP hD hS hA hZ hN hJ rfl hl.1 rfl (Nat.le_of_ble_eq_true rfl) dL_fileTall_4 ⟨(Nat.le_of_ble_eq_true rfl), (Nat.le_of_ble_eq_true rfl)⟩ (fun hk V1 ce q9 H locs hO9 hP hD hS h1 h2 h3 => ?_) (fun hk r V1 H locs hO9 hP hD hS => ?_)
  · rcases (ite04 (c := (ordR q 94 p1 p2 p3).1 = 0)) with h | h
    · exact absurd h hk
    · have h3 : s.vm.findClass (exn 4) = some ce.cls := by rw [← h]; exact h3
      refine vx_catch (own := RL) (E := "java/lang/UnsupportedOperationException") (name := "java/lang/UnsupportedOperationException") hown [] ⟨0, 7, 8, 13⟩ [] (htab.trans rfl) (List.forall_mem_nil _) (by decide) (by decide) (hts (.classLink RL 13 "java/lang/UnsupportedOperationException") (List.mem_of_getElem? (i := 1) rfl)) (va_Nw.use rfl (hZ.2.2.2 _ (by decide))) h1 h2 h3 ?_
      refine lv_astore (lv' := [(4, .ref q9), (0, .ref at_), (1, .int p1), (2, .int p2), (3, .int p3)]) hx hb dL_fileTall_8 hl (by decide) rfl (fun ls hl => ?_)
      refine lv_sipush (v := -1001) hx hb dL_fileTall_10 (by decide) ?_
      rw [hQ0]
      exact oxret_i hx hb hr hlocks hAe hK hP hD hS (Or.inr ⟨hO9.1, rfl, hO9.2⟩) dL_fileTall_13
  · rw [hQ0]
    exact oxret_i hx hb hr hlocks hAe hK hP hD hS (Or.inl ⟨hO9.2.2.1, hO9.1, hO9.2.1, hO9.2.2.2.1, hO9.2.2.2.2⟩) dL_fileTall_7
set_option maxHeartbeats 4000000 in
set_option maxRecDepth 100000 in
theorem oL_drop (l : Launch) (hst : l.stackTraces = false) (D : va_G) (y : Nat → ClassId) (sz at_ : Nat) {q : Lad} {us : List Lad} {sv : Option Lad} {rs dt ix lf : Int32} {M : Nat} {tx : Nat → Int32} {NN : Nat} {TT : Nat → Nat} (V : va_W) (p1 : Int32) (hO : Ob y at_ q us sv rs dt ix lf M tx NN TT V) : vx_Met l yL_drop wsL_drop (rmx 12 400 1 6) (zlP D y V sz [.ref at_, .int p1]) (oQi D y 0 (fun r V' => ((ordR q 45 p1 0 1).1 = 0 ∧ r = (ordC q 45 p1 0 1).1 ∧ 0 ≤ r ∧ GL (ordC q 45 p1 0 1).2 ∧ Ob y at_ ((ordC q 45 p1 0 1).2) (push q us) sv rs dt ix lf M tx NN TT V') ∨ ((ordR q 45 p1 0 1).1 ≠ 0 ∧ r = -1001 ∧ Ob y at_ q us sv ((ordR q 45 p1 0 1).1) ((ordR q 45 p1 0 1).2) 0 lf M tx NN TT V')) V sz) (oX D y 0 (fun _ => False) V sz) 1 6 (va_A V sz) := by
  refine vx_ofWH (cc := cL_drop) (maxL := 3) (ret := (some .int)) (hh := [(0, 5, 6, 13)]) (by decide) rfl ?_
  intro p e s m args below meth c s₁ B hml hv
  obtain ⟨hav, hsz, hP, hK, hD0, hZ, hN, hJ⟩ := hv
  have hx := B.exec
  have hb := B.bytes
  have hr := B.returns
  have hts := atoms_spec (ws := wsL_drop) B.pre
  have hown : s.vm.findClass RL = some m.cls := findClass_of_methodNamed B.named
  have hlocks := B.notSynchronized
  have htab := vx_table (x := yL_drop) B (hts _ List.mem_cons_self)
  subst hsz
  have hD := hD0.self (sz := s.heap.size)
  obtain ⟨A, hAe⟩ : ∃ A : Nat → Prop, va_A V s.heap.size = A := ⟨_, rfl⟩
  rw [hAe] at hD hZ hJ
  have hA : ∀ q, s.heap.size ≤ q → A q := fun q h => by rw [← hAe]; exact Or.inr h
  have hS : va_S A s.heap s.heap [] := va_S.rf
  have hP : va_P D vwCl (V ++ []) s.heap := by rw [List.append_nil]; exact hP
  have hD : va_D A (V ++ []) := by rw [List.append_nil]; exact hD
  obtain ⟨fs, he⟩ := Ob_head hO
  refine W_q (R1 := (rmx 12 400 1 6)) rfl (fun Q0 hQ0 => ?_)
  refine W_entry hav (Nat.le_of_ble_eq_true rfl) (fun ls hl => ?_)
  have hl : lv_has ls 3 [(0, .ref at_), (1, .int p1)] := hl
  refine lv_aload_n hx hb dL_drop_0 rfl (lv_at hl 0 rfl) ?_
  refine lv_iload_n hx hb dL_drop_1 rfl (lv_at hl 1 rfl) ?_
  refine ow_V (As := [.int p1]) (rest := []) ⟨hx, hb, hml, hown, hts⟩ (o_drop l hst D y s.heap.size at_ V p1 hO) (cwV 1 hts gL_drop_X7_drop rfl rfl rfl (by decide +kernel) ⟨(Nat.le_of_ble_eq_true rfl), (Nat.le_of_ble_eq_true rfl)⟩) he hK hP hD hS hA hZ hN hJ rfl hl.1 rfl (Nat.le_of_ble_eq_true rfl) dL_drop_2 ⟨(Nat.le_of_ble_eq_true rfl), (Nat.le_of_ble_eq_true rfl)⟩ (fun hk V1 ce q9 H locs hO9 hP hD hS h1 h2 h3 => ?_) (fun hk r V1 H locs hO9 hP hD hS => ?_)
  · rcases (ite04 (c := (ordR q 45 p1 0 1).1 = 0)) with h | h
    · exact absurd h hk
    · have h3 : s.vm.findClass (exn 4) = some ce.cls := by rw [← h]; exact h3
      refine vx_catch (own := RL) (E := "java/lang/UnsupportedOperationException") (name := "java/lang/UnsupportedOperationException") hown [] ⟨0, 5, 6, 13⟩ [] (htab.trans rfl) (List.forall_mem_nil _) (by decide) (by decide) (hts (.classLink RL 13 "java/lang/UnsupportedOperationException") (List.mem_of_getElem? (i := 1) rfl)) (va_Nw.use rfl (hZ.2.2.2 _ (by decide))) h1 h2 h3 ?_
      refine lv_astore_n (lv' := [(2, .ref q9), (0, .ref at_), (1, .int p1)]) hx hb dL_drop_6 rfl hl (by decide) rfl (fun ls hl => ?_)
      refine lv_sipush (v := -1001) hx hb dL_drop_7 (by decide) ?_
      rw [hQ0]
      exact oxret_i hx hb hr hlocks hAe hK hP hD hS (Or.inr ⟨hO9.1, rfl, hO9.2⟩) dL_drop_10
  · rw [hQ0]
    exact oxret_i hx hb hr hlocks hAe hK hP hD hS (Or.inl ⟨hO9.2.2.1, hO9.1, hO9.2.1, hO9.2.2.2.1, hO9.2.2.2.2⟩) dL_drop_5
set_option maxHeartbeats 4000000 in
set_option maxRecDepth 100000 in
theorem oL_raise (l : Launch) (hst : l.stackTraces = false) (D : va_G) (y : Nat → ClassId) (sz at_ : Nat) {q : Lad} {us : List Lad} {sv : Option Lad} {rs dt ix lf : Int32} {M : Nat} {tx : Nat → Int32} {NN : Nat} {TT : Nat → Nat} (V : va_W) (p1 : Int32) (hO : Ob y at_ q us sv rs dt ix lf M tx NN TT V) : vx_Met l yL_raise wsL_raise (rmx 12 400 1 6) (zlP D y V sz [.ref at_, .int p1]) (oQi D y 0 (fun r V' => ((ordR q 117 p1 0 1).1 = 0 ∧ r = (ordC q 117 p1 0 1).1 ∧ 0 ≤ r ∧ GL (ordC q 117 p1 0 1).2 ∧ Ob y at_ ((ordC q 117 p1 0 1).2) (push q us) sv rs dt ix lf M tx NN TT V') ∨ ((ordR q 117 p1 0 1).1 ≠ 0 ∧ r = -1001 ∧ Ob y at_ q us sv ((ordR q 117 p1 0 1).1) ((ordR q 117 p1 0 1).2) 0 lf M tx NN TT V')) V sz) (oX D y 0 (fun _ => False) V sz) 1 6 (va_A V sz) := by
  refine vx_ofWH (cc := cL_raise) (maxL := 3) (ret := (some .int)) (hh := [(0, 5, 6, 13)]) (by decide) rfl ?_
  intro p e s m args below meth c s₁ B hml hv
  obtain ⟨hav, hsz, hP, hK, hD0, hZ, hN, hJ⟩ := hv
  have hx := B.exec
  have hb := B.bytes
  have hr := B.returns
  have hts := atoms_spec (ws := wsL_raise) B.pre
  have hown : s.vm.findClass RL = some m.cls := findClass_of_methodNamed B.named
  have hlocks := B.notSynchronized
  have htab := vx_table (x := yL_raise) B (hts _ List.mem_cons_self)
  subst hsz
  have hD := hD0.self (sz := s.heap.size)
  obtain ⟨A, hAe⟩ : ∃ A : Nat → Prop, va_A V s.heap.size = A := ⟨_, rfl⟩
  rw [hAe] at hD hZ hJ
  have hA : ∀ q, s.heap.size ≤ q → A q := fun q h => by rw [← hAe]; exact Or.inr h
  have hS : va_S A s.heap s.heap [] := va_S.rf
  have hP : va_P D vwCl (V ++ []) s.heap := by rw [List.append_nil]; exact hP
  have hD : va_D A (V ++ []) := by rw [List.append_nil]; exact hD
  obtain ⟨fs, he⟩ := Ob_head hO
  refine W_q (R1 := (rmx 12 400 1 6)) rfl (fun Q0 hQ0 => ?_)
  refine W_entry hav (Nat.le_of_ble_eq_true rfl) (fun ls hl => ?_)
  have hl : lv_has ls 3 [(0, .ref at_), (1, .int p1)] := hl
  refine lv_aload_n hx hb dL_raise_0 rfl (lv_at hl 0 rfl) ?_
  refine lv_iload_n hx hb dL_raise_1 rfl (lv_at hl 1 rfl) ?_
  refine ow_V (As := [.int p1]) (rest := []) ⟨hx, hb, hml, hown, hts⟩ (o_raise l hst D y s.heap.size at_ V p1 hO) (cwV 1 hts gL_raise_X7_raise rfl rfl rfl (by decide +kernel) ⟨(Nat.le_of_ble_eq_true rfl), (Nat.le_of_ble_eq_true rfl)⟩) he hK hP hD hS hA hZ hN hJ rfl hl.1 rfl (Nat.le_of_ble_eq_true rfl) dL_raise_2 ⟨(Nat.le_of_ble_eq_true rfl), (Nat.le_of_ble_eq_true rfl)⟩ (fun hk V1 ce q9 H locs hO9 hP hD hS h1 h2 h3 => ?_) (fun hk r V1 H locs hO9 hP hD hS => ?_)
  · rcases (ite04 (c := (ordR q 117 p1 0 1).1 = 0)) with h | h
    · exact absurd h hk
    · have h3 : s.vm.findClass (exn 4) = some ce.cls := by rw [← h]; exact h3
      refine vx_catch (own := RL) (E := "java/lang/UnsupportedOperationException") (name := "java/lang/UnsupportedOperationException") hown [] ⟨0, 5, 6, 13⟩ [] (htab.trans rfl) (List.forall_mem_nil _) (by decide) (by decide) (hts (.classLink RL 13 "java/lang/UnsupportedOperationException") (List.mem_of_getElem? (i := 1) rfl)) (va_Nw.use rfl (hZ.2.2.2 _ (by decide))) h1 h2 h3 ?_
      refine lv_astore_n (lv' := [(2, .ref q9), (0, .ref at_), (1, .int p1)]) hx hb dL_raise_6 rfl hl (by decide) rfl (fun ls hl => ?_)
      refine lv_sipush (v := -1001) hx hb dL_raise_7 (by decide) ?_
      rw [hQ0]
      exact oxret_i hx hb hr hlocks hAe hK hP hD hS (Or.inr ⟨hO9.1, rfl, hO9.2⟩) dL_raise_10
  · rw [hQ0]
    exact oxret_i hx hb hr hlocks hAe hK hP hD hS (Or.inl ⟨hO9.2.2.1, hO9.1, hO9.2.1, hO9.2.2.2.1, hO9.2.2.2.2⟩) dL_raise_5
set_option maxHeartbeats 4000000 in
set_option maxRecDepth 100000 in
theorem oL_lower (l : Launch) (hst : l.stackTraces = false) (D : va_G) (y : Nat → ClassId) (sz at_ : Nat) {q : Lad} {us : List Lad} {sv : Option Lad} {rs dt ix lf : Int32} {M : Nat} {tx : Nat → Int32} {NN : Nat} {TT : Nat → Nat} (V : va_W) (p1 : Int32) (hO : Ob y at_ q us sv rs dt ix lf M tx NN TT V) : vx_Met l yL_lower wsL_lower (rmx 12 400 1 6) (zlP D y V sz [.ref at_, .int p1]) (oQi D y 0 (fun r V' => ((ordR q 100 p1 0 1).1 = 0 ∧ r = (ordC q 100 p1 0 1).1 ∧ 0 ≤ r ∧ GL (ordC q 100 p1 0 1).2 ∧ Ob y at_ ((ordC q 100 p1 0 1).2) (push q us) sv rs dt ix lf M tx NN TT V') ∨ ((ordR q 100 p1 0 1).1 ≠ 0 ∧ r = -1001 ∧ Ob y at_ q us sv ((ordR q 100 p1 0 1).1) ((ordR q 100 p1 0 1).2) 0 lf M tx NN TT V')) V sz) (oX D y 0 (fun _ => False) V sz) 1 6 (va_A V sz) := by
  refine vx_ofWH (cc := cL_lower) (maxL := 3) (ret := (some .int)) (hh := [(0, 5, 6, 13)]) (by decide) rfl ?_
  intro p e s m args below meth c s₁ B hml hv
  obtain ⟨hav, hsz, hP, hK, hD0, hZ, hN, hJ⟩ := hv
  have hx := B.exec
  have hb := B.bytes
  have hr := B.returns
  have hts := atoms_spec (ws := wsL_lower) B.pre
  have hown : s.vm.findClass RL = some m.cls := findClass_of_methodNamed B.named
  have hlocks := B.notSynchronized
  have htab := vx_table (x := yL_lower) B (hts _ List.mem_cons_self)
  subst hsz
  have hD := hD0.self (sz := s.heap.size)
  obtain ⟨A, hAe⟩ : ∃ A : Nat → Prop, va_A V s.heap.size = A := ⟨_, rfl⟩
  rw [hAe] at hD hZ hJ
  have hA : ∀ q, s.heap.size ≤ q → A q := fun q h => by rw [← hAe]; exact Or.inr h
  have hS : va_S A s.heap s.heap [] := va_S.rf
  have hP : va_P D vwCl (V ++ []) s.heap := by rw [List.append_nil]; exact hP
  have hD : va_D A (V ++ []) := by rw [List.append_nil]; exact hD
  obtain ⟨fs, he⟩ := Ob_head hO
  refine W_q (R1 := (rmx 12 400 1 6)) rfl (fun Q0 hQ0 => ?_)
  refine W_entry hav (Nat.le_of_ble_eq_true rfl) (fun ls hl => ?_)
  have hl : lv_has ls 3 [(0, .ref at_), (1, .int p1)] := hl
  refine lv_aload_n hx hb dL_lower_0 rfl (lv_at hl 0 rfl) ?_
  refine lv_iload_n hx hb dL_lower_1 rfl (lv_at hl 1 rfl) ?_
  refine ow_V (As := [.int p1]) (rest := []) ⟨hx, hb, hml, hown, hts⟩ (o_lower l hst D y s.heap.size at_ V p1 hO) (cwV 1 hts gL_lower_X7_lower rfl rfl rfl (by decide +kernel) ⟨(Nat.le_of_ble_eq_true rfl), (Nat.le_of_ble_eq_true rfl)⟩) he hK hP hD hS hA hZ hN hJ rfl hl.1 rfl (Nat.le_of_ble_eq_true rfl) dL_lower_2 ⟨(Nat.le_of_ble_eq_true rfl), (Nat.le_of_ble_eq_true rfl)⟩ (fun hk V1 ce q9 H locs hO9 hP hD hS h1 h2 h3 => ?_) (fun hk r V1 H locs hO9 hP hD hS => ?_)
  · rcases (ite04 (c := (ordR q 100 p1 0 1).1 = 0)) with h | h
    · exact absurd h hk
    · have h3 : s.vm.findClass (exn 4) = some ce.cls := by rw [← h]; exact h3
      refine vx_catch (own := RL) (E := "java/lang/UnsupportedOperationException") (name := "java/lang/UnsupportedOperationException") hown [] ⟨0, 5, 6, 13⟩ [] (htab.trans rfl) (List.forall_mem_nil _) (by decide) (by decide) (hts (.classLink RL 13 "java/lang/UnsupportedOperationException") (List.mem_of_getElem? (i := 1) rfl)) (va_Nw.use rfl (hZ.2.2.2 _ (by decide))) h1 h2 h3 ?_
      refine lv_astore_n (lv' := [(2, .ref q9), (0, .ref at_), (1, .int p1)]) hx hb dL_lower_6 rfl hl (by decide) rfl (fun ls hl => ?_)
      refine lv_sipush (v := -1001) hx hb dL_lower_7 (by decide) ?_
      rw [hQ0]
      exact oxret_i hx hb hr hlocks hAe hK hP hD hS (Or.inr ⟨hO9.1, rfl, hO9.2⟩) dL_lower_10
  · rw [hQ0]
    exact oxret_i hx hb hr hlocks hAe hK hP hD hS (Or.inl ⟨hO9.2.2.1, hO9.1, hO9.2.1, hO9.2.2.2.1, hO9.2.2.2.2⟩) dL_lower_5
set_option maxHeartbeats 4000000 in
set_option maxRecDepth 100000 in
theorem oL_forget (l : Launch) (hst : l.stackTraces = false) (D : va_G) (y : Nat → ClassId) (sz at_ : Nat) {q : Lad} {us : List Lad} {sv : Option Lad} {rs dt ix lf : Int32} {M : Nat} {tx : Nat → Int32} {NN : Nat} {TT : Nat → Nat} (V : va_W) (p1 : Int32) (hO : Ob y at_ q us sv rs dt ix lf M tx NN TT V) : vx_Met l yL_forget wsL_forget (rmx 12 400 1 6) (zlP D y V sz [.ref at_, .int p1]) (oQi D y 0 (fun r V' => ((ordR q 102 p1 0 1).1 = 0 ∧ r = (ordC q 102 p1 0 1).1 ∧ 0 ≤ r ∧ GL (ordC q 102 p1 0 1).2 ∧ Ob y at_ ((ordC q 102 p1 0 1).2) (push q us) sv rs dt ix lf M tx NN TT V') ∨ ((ordR q 102 p1 0 1).1 ≠ 0 ∧ r = -1001 ∧ Ob y at_ q us sv ((ordR q 102 p1 0 1).1) ((ordR q 102 p1 0 1).2) 0 lf M tx NN TT V')) V sz) (oX D y 0 (fun _ => False) V sz) 1 6 (va_A V sz) := by
  refine vx_ofWH (cc := cL_forget) (maxL := 3) (ret := (some .int)) (hh := [(0, 5, 6, 13)]) (by decide) rfl ?_
  intro p e s m args below meth c s₁ B hml hv
  obtain ⟨hav, hsz, hP, hK, hD0, hZ, hN, hJ⟩ := hv
  have hx := B.exec
  have hb := B.bytes
  have hr := B.returns
  have hts := atoms_spec (ws := wsL_forget) B.pre
  have hown : s.vm.findClass RL = some m.cls := findClass_of_methodNamed B.named
  have hlocks := B.notSynchronized
  have htab := vx_table (x := yL_forget) B (hts _ List.mem_cons_self)
  subst hsz
  have hD := hD0.self (sz := s.heap.size)
  obtain ⟨A, hAe⟩ : ∃ A : Nat → Prop, va_A V s.heap.size = A := ⟨_, rfl⟩
  rw [hAe] at hD hZ hJ
  have hA : ∀ q, s.heap.size ≤ q → A q := fun q h => by rw [← hAe]; exact Or.inr h
  have hS : va_S A s.heap s.heap [] := va_S.rf
  have hP : va_P D vwCl (V ++ []) s.heap := by rw [List.append_nil]; exact hP
  have hD : va_D A (V ++ []) := by rw [List.append_nil]; exact hD
  obtain ⟨fs, he⟩ := Ob_head hO
  refine W_q (R1 := (rmx 12 400 1 6)) rfl (fun Q0 hQ0 => ?_)
  refine W_entry hav (Nat.le_of_ble_eq_true rfl) (fun ls hl => ?_)
  have hl : lv_has ls 3 [(0, .ref at_), (1, .int p1)] := hl
  refine lv_aload_n hx hb dL_forget_0 rfl (lv_at hl 0 rfl) ?_
  refine lv_iload_n hx hb dL_forget_1 rfl (lv_at hl 1 rfl) ?_
  refine ow_V (As := [.int p1]) (rest := []) ⟨hx, hb, hml, hown, hts⟩ (o_forget l hst D y s.heap.size at_ V p1 hO) (cwV 1 hts gL_forget_X7_forget rfl rfl rfl (by decide +kernel) ⟨(Nat.le_of_ble_eq_true rfl), (Nat.le_of_ble_eq_true rfl)⟩) he hK hP hD hS hA hZ hN hJ rfl hl.1 rfl (Nat.le_of_ble_eq_true rfl) dL_forget_2 ⟨(Nat.le_of_ble_eq_true rfl), (Nat.le_of_ble_eq_true rfl)⟩ (fun hk V1 ce q9 H locs hO9 hP hD hS h1 h2 h3 => ?_) (fun hk r V1 H locs hO9 hP hD hS => ?_)
  · rcases (ite04 (c := (ordR q 102 p1 0 1).1 = 0)) with h | h
    · exact absurd h hk
    · have h3 : s.vm.findClass (exn 4) = some ce.cls := by rw [← h]; exact h3
      refine vx_catch (own := RL) (E := "java/lang/UnsupportedOperationException") (name := "java/lang/UnsupportedOperationException") hown [] ⟨0, 5, 6, 13⟩ [] (htab.trans rfl) (List.forall_mem_nil _) (by decide) (by decide) (hts (.classLink RL 13 "java/lang/UnsupportedOperationException") (List.mem_of_getElem? (i := 1) rfl)) (va_Nw.use rfl (hZ.2.2.2 _ (by decide))) h1 h2 h3 ?_
      refine lv_astore_n (lv' := [(2, .ref q9), (0, .ref at_), (1, .int p1)]) hx hb dL_forget_6 rfl hl (by decide) rfl (fun ls hl => ?_)
      refine lv_sipush (v := -1001) hx hb dL_forget_7 (by decide) ?_
      rw [hQ0]
      exact oxret_i hx hb hr hlocks hAe hK hP hD hS (Or.inr ⟨hO9.1, rfl, hO9.2⟩) dL_forget_10
  · rw [hQ0]
    exact oxret_i hx hb hr hlocks hAe hK hP hD hS (Or.inl ⟨hO9.2.2.1, hO9.1, hO9.2.1, hO9.2.2.2.1, hO9.2.2.2.2⟩) dL_forget_5
set_option maxHeartbeats 4000000 in
set_option maxRecDepth 100000 in
theorem oL_recall (l : Launch) (hst : l.stackTraces = false) (D : va_G) (y : Nat → ClassId) (sz at_ : Nat) {q : Lad} {us : List Lad} {sv : Option Lad} {rs dt ix lf : Int32} {M : Nat} {tx : Nat → Int32} {NN : Nat} {TT : Nat → Nat} (V : va_W) (p1 : Int32) (hO : Ob y at_ q us sv rs dt ix lf M tx NN TT V) : vx_Met l yL_recall wsL_recall (rmx 12 400 1 6) (zlP D y V sz [.ref at_, .int p1]) (oQi D y 0 (fun r V' => ((ordR q 114 p1 0 1).1 = 0 ∧ r = (ordC q 114 p1 0 1).1 ∧ 0 ≤ r ∧ GL (ordC q 114 p1 0 1).2 ∧ Ob y at_ ((ordC q 114 p1 0 1).2) (push q us) sv rs dt ix lf M tx NN TT V') ∨ ((ordR q 114 p1 0 1).1 ≠ 0 ∧ r = -1001 ∧ Ob y at_ q us sv ((ordR q 114 p1 0 1).1) ((ordR q 114 p1 0 1).2) 0 lf M tx NN TT V')) V sz) (oX D y 0 (fun _ => False) V sz) 1 6 (va_A V sz) := by
  refine vx_ofWH (cc := cL_recall) (maxL := 3) (ret := (some .int)) (hh := [(0, 5, 6, 13)]) (by decide) rfl ?_
  intro p e s m args below meth c s₁ B hml hv
  obtain ⟨hav, hsz, hP, hK, hD0, hZ, hN, hJ⟩ := hv
  have hx := B.exec
  have hb := B.bytes
  have hr := B.returns
  have hts := atoms_spec (ws := wsL_recall) B.pre
  have hown : s.vm.findClass RL = some m.cls := findClass_of_methodNamed B.named
  have hlocks := B.notSynchronized
  have htab := vx_table (x := yL_recall) B (hts _ List.mem_cons_self)
  subst hsz
  have hD := hD0.self (sz := s.heap.size)
  obtain ⟨A, hAe⟩ : ∃ A : Nat → Prop, va_A V s.heap.size = A := ⟨_, rfl⟩
  rw [hAe] at hD hZ hJ
  have hA : ∀ q, s.heap.size ≤ q → A q := fun q h => by rw [← hAe]; exact Or.inr h
  have hS : va_S A s.heap s.heap [] := va_S.rf
  have hP : va_P D vwCl (V ++ []) s.heap := by rw [List.append_nil]; exact hP
  have hD : va_D A (V ++ []) := by rw [List.append_nil]; exact hD
  obtain ⟨fs, he⟩ := Ob_head hO
  refine W_q (R1 := (rmx 12 400 1 6)) rfl (fun Q0 hQ0 => ?_)
  refine W_entry hav (Nat.le_of_ble_eq_true rfl) (fun ls hl => ?_)
  have hl : lv_has ls 3 [(0, .ref at_), (1, .int p1)] := hl
  refine lv_aload_n hx hb dL_recall_0 rfl (lv_at hl 0 rfl) ?_
  refine lv_iload_n hx hb dL_recall_1 rfl (lv_at hl 1 rfl) ?_
  refine ow_V (As := [.int p1]) (rest := []) ⟨hx, hb, hml, hown, hts⟩ (o_recall l hst D y s.heap.size at_ V p1 hO) (cwV 1 hts gL_recall_X7_recall rfl rfl rfl (by decide +kernel) ⟨(Nat.le_of_ble_eq_true rfl), (Nat.le_of_ble_eq_true rfl)⟩) he hK hP hD hS hA hZ hN hJ rfl hl.1 rfl (Nat.le_of_ble_eq_true rfl) dL_recall_2 ⟨(Nat.le_of_ble_eq_true rfl), (Nat.le_of_ble_eq_true rfl)⟩ (fun hk V1 ce q9 H locs hO9 hP hD hS h1 h2 h3 => ?_) (fun hk r V1 H locs hO9 hP hD hS => ?_)
  · rcases (ite04 (c := (ordR q 114 p1 0 1).1 = 0)) with h | h
    · exact absurd h hk
    · have h3 : s.vm.findClass (exn 4) = some ce.cls := by rw [← h]; exact h3
      refine vx_catch (own := RL) (E := "java/lang/UnsupportedOperationException") (name := "java/lang/UnsupportedOperationException") hown [] ⟨0, 5, 6, 13⟩ [] (htab.trans rfl) (List.forall_mem_nil _) (by decide) (by decide) (hts (.classLink RL 13 "java/lang/UnsupportedOperationException") (List.mem_of_getElem? (i := 1) rfl)) (va_Nw.use rfl (hZ.2.2.2 _ (by decide))) h1 h2 h3 ?_
      refine lv_astore_n (lv' := [(2, .ref q9), (0, .ref at_), (1, .int p1)]) hx hb dL_recall_6 rfl hl (by decide) rfl (fun ls hl => ?_)
      refine lv_sipush (v := -1001) hx hb dL_recall_7 (by decide) ?_
      rw [hQ0]
      exact oxret_i hx hb hr hlocks hAe hK hP hD hS (Or.inr ⟨hO9.1, rfl, hO9.2⟩) dL_recall_10
  · rw [hQ0]
    exact oxret_i hx hb hr hlocks hAe hK hP hD hS (Or.inl ⟨hO9.2.2.1, hO9.1, hO9.2.1, hO9.2.2.2.1, hO9.2.2.2.2⟩) dL_recall_5
set_option maxHeartbeats 4000000 in
set_option maxRecDepth 100000 in
theorem oL_weigh (l : Launch) (hst : l.stackTraces = false) (D : va_G) (y : Nat → ClassId) (sz at_ : Nat) {q : Lad} {us : List Lad} {sv : Option Lad} {rs dt ix lf : Int32} {M : Nat} {tx : Nat → Int32} {NN : Nat} {TT : Nat → Nat} (V : va_W) (p1 : Int32) (p2 : Int32) (hO : Ob y at_ q us sv rs dt ix lf M tx NN TT V) : vx_Met l yL_weigh wsL_weigh (rmx 12 400 1 6) (zlP D y V sz [.ref at_, .int p1, .int p2]) (oQi D y 0 (fun r V' => ((ordR q 119 p1 p2 1).1 = 0 ∧ r = (ordC q 119 p1 p2 1).1 ∧ 0 ≤ r ∧ GL (ordC q 119 p1 p2 1).2 ∧ Ob y at_ ((ordC q 119 p1 p2 1).2) (push q us) sv rs dt ix lf M tx NN TT V') ∨ ((ordR q 119 p1 p2 1).1 ≠ 0 ∧ r = -1001 ∧ Ob y at_ q us sv ((ordR q 119 p1 p2 1).1) ((ordR q 119 p1 p2 1).2) 0 lf M tx NN TT V')) V sz) (oX D y 0 (fun _ => False) V sz) 1 6 (va_A V sz) := by
  refine vx_ofWH (cc := cL_weigh) (maxL := 4) (ret := (some .int)) (hh := [(0, 6, 7, 13)]) (by decide) rfl ?_
  intro p e s m args below meth c s₁ B hml hv
  obtain ⟨hav, hsz, hP, hK, hD0, hZ, hN, hJ⟩ := hv
  have hx := B.exec
  have hb := B.bytes
  have hr := B.returns
  have hts := atoms_spec (ws := wsL_weigh) B.pre
  have hown : s.vm.findClass RL = some m.cls := findClass_of_methodNamed B.named
  have hlocks := B.notSynchronized
  have htab := vx_table (x := yL_weigh) B (hts _ List.mem_cons_self)
  subst hsz
  have hD := hD0.self (sz := s.heap.size)
  obtain ⟨A, hAe⟩ : ∃ A : Nat → Prop, va_A V s.heap.size = A := ⟨_, rfl⟩
  rw [hAe] at hD hZ hJ
  have hA : ∀ q, s.heap.size ≤ q → A q := fun q h => by rw [← hAe]; exact Or.inr h
  have hS : va_S A s.heap s.heap [] := va_S.rf
  have hP : va_P D vwCl (V ++ []) s.heap := by rw [List.append_nil]; exact hP
  have hD : va_D A (V ++ []) := by rw [List.append_nil]; exact hD
  obtain ⟨fs, he⟩ := Ob_head hO
  refine W_q (R1 := (rmx 12 400 1 6)) rfl (fun Q0 hQ0 => ?_)
  refine W_entry hav (Nat.le_of_ble_eq_true rfl) (fun ls hl => ?_)
  have hl : lv_has ls 4 [(0, .ref at_), (1, .int p1), (2, .int p2)] := hl
  refine lv_aload_n hx hb dL_weigh_0 rfl (lv_at hl 0 rfl) ?_
  refine lv_iload_n hx hb dL_weigh_1 rfl (lv_at hl 1 rfl) ?_
  refine lv_iload_n hx hb dL_weigh_2 rfl (lv_at hl 2 rfl) ?_
  refine ow_V (As := [.int p1, .int p2]) (rest := []) ⟨hx, hb, hml, hown, hts⟩ (o_weigh l hst D y s.heap.size at_ V p1 p2 hO) (cwV 2 hts gL_weigh_X7_weigh rfl rfl rfl (by decide +kernel) ⟨(Nat.le_of_ble_eq_true rfl), (Nat.le_of_ble_eq_true rfl)⟩) he hK hP hD hS hA hZ hN hJ rfl hl.1 rfl (Nat.le_of_ble_eq_true rfl) dL_weigh_3 ⟨(Nat.le_of_ble_eq_true rfl), (Nat.le_of_ble_eq_true rfl)⟩ (fun hk V1 ce q9 H locs hO9 hP hD hS h1 h2 h3 => ?_) (fun hk r V1 H locs hO9 hP hD hS => ?_)
  · rcases (ite04 (c := (ordR q 119 p1 p2 1).1 = 0)) with h | h
    · exact absurd h hk
    · have h3 : s.vm.findClass (exn 4) = some ce.cls := by rw [← h]; exact h3
      refine vx_catch (own := RL) (E := "java/lang/UnsupportedOperationException") (name := "java/lang/UnsupportedOperationException") hown [] ⟨0, 6, 7, 13⟩ [] (htab.trans rfl) (List.forall_mem_nil _) (by decide) (by decide) (hts (.classLink RL 13 "java/lang/UnsupportedOperationException") (List.mem_of_getElem? (i := 1) rfl)) (va_Nw.use rfl (hZ.2.2.2 _ (by decide))) h1 h2 h3 ?_
      refine lv_astore_n (lv' := [(3, .ref q9), (0, .ref at_), (1, .int p1), (2, .int p2)]) hx hb dL_weigh_7 rfl hl (by decide) rfl (fun ls hl => ?_)
      refine lv_sipush (v := -1001) hx hb dL_weigh_8 (by decide) ?_
      rw [hQ0]
      exact oxret_i hx hb hr hlocks hAe hK hP hD hS (Or.inr ⟨hO9.1, rfl, hO9.2⟩) dL_weigh_11
  · rw [hQ0]
    exact oxret_i hx hb hr hlocks hAe hK hP hD hS (Or.inl ⟨hO9.2.2.1, hO9.1, hO9.2.1, hO9.2.2.2.1, hO9.2.2.2.2⟩) dL_weigh_6
