/-! the law's texts, reasons, lines -/
set_option maxHeartbeats 4000000 in
set_option maxRecDepth 100000 in
theorem oL_reason (l : Launch) (hst : l.stackTraces = false) (D : va_G) (y : Nat → ClassId) (sz at_ : Nat) {q : Lad} {us : List Lad} {sv : Option Lad} {rs dt ix lf : Int32} {M : Nat} {tx : Nat → Int32} {NN : Nat} {TT : Nat → Nat} (V : va_W) (p1 : Int32) (hO : Ob y at_ q us sv rs dt ix lf M tx NN TT V) : vx_Met l yL_reason wsL_reason (rmx 12 400 1 6) (zlP D y V sz [.ref at_, .int p1]) (oQi D y 0 (fun r V' => r = (lq_reason rs dt ix p1) ∧ Ob y at_ q us sv rs dt ix lf M tx NN TT V') V sz) (oX D y 0 (fun _ => False) V sz) 1 6 (va_A V sz) := by
  refine vx_ofWH (cc := cL_reason) (maxL := 3) (ret := (some .int)) (hh := [(0, 5, 6, 41), (0, 5, 11, 43)]) (by decide) rfl ?_
  intro p e s m args below meth c s₁ B hml hv
  obtain ⟨hav, hsz, hP, hK, hD0, hZ, hN, hJ⟩ := hv
  have hx := B.exec
  have hb := B.bytes
  have hr := B.returns
  have hts := atoms_spec (ws := wsL_reason) B.pre
  have hown : s.vm.findClass RL = some m.cls := findClass_of_methodNamed B.named
  have hlocks := B.notSynchronized
  have htab := vx_table (x := yL_reason) B (hts _ List.mem_cons_self)
  subst hsz
  have hD := hD0.self (sz := s.heap.size)
  obtain ⟨A, hAe⟩ : ∃ A : Nat → Prop, va_A V s.heap.size = A := ⟨_, rfl⟩
  rw [hAe] at hD hZ hJ
  have hA : ∀ q, s.heap.size ≤ q → A q := fun q h => by rw [← hAe]; exact Or.inr h
  have hS : va_S A s.heap s.heap [] := va_S.rf
  have hP : va_P D vwCl (V ++ []) s.heap := by rw [List.append_nil]; exact hP
  have hD : va_D A (V ++ []) := by rw [List.append_nil]; exact hD
  obtain ⟨fs, he⟩ := Ob_head hO
  refine W_q (R1 := (rmx 12 400 1 6)) rfl (fun Q0 hQ0 => ?_)
  refine W_entry hav (Nat.le_of_ble_eq_true rfl) (fun ls hl => ?_)
  have hl : lv_has ls 3 [(0, .ref at_), (1, .int p1)] := hl
  refine lv_aload_n hx hb dL_reason_0 rfl (lv_at hl 0 rfl) ?_
  refine lv_iload_n hx hb dL_reason_1 rfl (lv_at hl 1 rfl) ?_
  refine ow_V (As := [.int p1]) (rest := []) ⟨hx, hb, hml, hown, hts⟩ (o_reason l hst D y s.heap.size at_ V p1 hO) (cwV 1 hts gL_reason_X7_reason rfl rfl rfl (by decide +kernel) ⟨(Nat.le_of_ble_eq_true rfl), (Nat.le_of_ble_eq_true rfl)⟩) he hK hP hD hS hA hZ hN hJ rfl hl.1 rfl (Nat.le_of_ble_eq_true rfl) dL_reason_2 ⟨(Nat.le_of_ble_eq_true rfl), (Nat.le_of_ble_eq_true rfl)⟩ (fun hk V1 ce q9 H locs hO9 hP hD hS h1 h2 h3 => ?_) (fun hk r V1 H locs hO9 hP hD hS => ?_)
  · rcases (K_reason (rs := rs) (dt := dt) (ix := ix) (p1 := p1)) with h | h | h
    · exact absurd h hk
    · have h3 : s.vm.findClass (exn 1) = some ce.cls := by rw [← h]; exact h3
      refine vx_catch (own := RL) (E := "java/lang/IllegalArgumentException") (name := "java/lang/IllegalArgumentException") hown [] ⟨0, 5, 6, 41⟩ [⟨0, 5, 11, 43⟩] (htab.trans rfl) (List.forall_mem_nil _) (by decide) (by decide) (hts (.classLink RL 41 "java/lang/IllegalArgumentException") (List.mem_of_getElem? (i := 1) rfl)) (va_Nw.use rfl (hZ.2.2.2 _ (by decide))) h1 h2 h3 ?_
      refine lv_astore_n (lv' := [(2, .ref q9), (0, .ref at_), (1, .int p1)]) hx hb dL_reason_6 rfl hl (by decide) rfl (fun ls hl => ?_)
      refine lv_sipush (v := -1001) hx hb dL_reason_7 (by decide) ?_
      rw [hQ0]
      exact oxret_i hx hb hr hlocks hAe hK hP hD hS (⟨by unfold lq_reason; rw [h]; rfl, hO9⟩) dL_reason_10
    · have h3 : s.vm.findClass (exn 2) = some ce.cls := by rw [← h]; exact h3
      refine vx_catch (own := RL) (E := "java/util/NoSuchElementException") (name := "java/util/NoSuchElementException") hown [⟨0, 5, 6, 41⟩] ⟨0, 5, 11, 43⟩ [] (htab.trans rfl) (List.forall_mem_cons.mpr ⟨Or.inr ⟨by decide, "java/lang/IllegalArgumentException", (hts (.classLink RL 41 "java/lang/IllegalArgumentException") (List.mem_of_getElem? (i := 1) rfl)), hN _ (show ("java/util/NoSuchElementException", "java/lang/IllegalArgumentException") ∈ ncs by decide)⟩, List.forall_mem_nil _⟩) (by decide) (by decide) (hts (.classLink RL 43 "java/util/NoSuchElementException") (List.mem_of_getElem? (i := 2) rfl)) (va_Nw.use rfl (hZ.2.2.2 _ (by decide))) h1 h2 h3 ?_
      refine lv_astore_n (lv' := [(2, .ref q9), (0, .ref at_), (1, .int p1)]) hx hb dL_reason_11 rfl hl (by decide) rfl (fun ls hl => ?_)
      refine lv_sipush (v := -1002) hx hb dL_reason_12 (by decide) ?_
      rw [hQ0]
      exact oxret_i hx hb hr hlocks hAe hK hP hD hS (⟨by unfold lq_reason; rw [h]; rfl, hO9⟩) dL_reason_15
  · rw [hQ0]
    exact oxret_i hx hb hr hlocks hAe hK hP hD hS (⟨by unfold lq_reason; rw [if_pos hk]; exact hO9.1, hO9.2⟩) dL_reason_5
set_option maxHeartbeats 4000000 in
set_option maxRecDepth 100000 in
theorem oL_append (l : Launch) (hst : l.stackTraces = false) (D : va_G) (y : Nat → ClassId) (sz at_ : Nat) {q : Lad} {us : List Lad} {sv : Option Lad} {rs dt ix lf : Int32} {M : Nat} {tx : Nat → Int32} {NN : Nat} {TT : Nat → Nat} (V : va_W) (p1 : Int32) (hO : Ob y at_ q us sv rs dt ix lf M tx NN TT V) (hM : M < 60) : vx_Met l yL_append wsL_append (rmx 12 400 1 6) (zlP D y V sz [.ref at_, .int p1]) (oQi D y 0 (fun r V' => r = nI (M + 1) ∧ Ob y at_ q us sv rs dt ix lf (M + 1) (upd tx M (vp_nar .char p1)) NN TT V') V sz) (oX D y 0 (fun _ => False) V sz) 1 6 (va_A V sz) := by
  refine vx_ofWH (cc := cL_append) (maxL := 3) (ret := (some .int)) (hh := [(0, 5, 6, 110)]) (by decide) rfl ?_
  intro p e s m args below meth c s₁ B hml hv
  obtain ⟨hav, hsz, hP, hK, hD0, hZ, hN, hJ⟩ := hv
  have hx := B.exec
  have hb := B.bytes
  have hr := B.returns
  have hts := atoms_spec (ws := wsL_append) B.pre
  have hown : s.vm.findClass RL = some m.cls := findClass_of_methodNamed B.named
  have hlocks := B.notSynchronized
  have htab := vx_table (x := yL_append) B (hts _ List.mem_cons_self)
  subst hsz
  have hD := hD0.self (sz := s.heap.size)
  obtain ⟨A, hAe⟩ : ∃ A : Nat → Prop, va_A V s.heap.size = A := ⟨_, rfl⟩
  rw [hAe] at hD hZ hJ
  have hA : ∀ q, s.heap.size ≤ q → A q := fun q h => by rw [← hAe]; exact Or.inr h
  have hS : va_S A s.heap s.heap [] := va_S.rf
  have hP : va_P D vwCl (V ++ []) s.heap := by rw [List.append_nil]; exact hP
  have hD : va_D A (V ++ []) := by rw [List.append_nil]; exact hD
  obtain ⟨fs, he⟩ := Ob_head hO
  refine W_q (R1 := (rmx 12 400 1 6)) rfl (fun Q0 hQ0 => ?_)
  refine W_entry hav (Nat.le_of_ble_eq_true rfl) (fun ls hl => ?_)
  have hl : lv_has ls 3 [(0, .ref at_), (1, .int p1)] := hl
  refine lv_aload_n hx hb dL_append_0 rfl (lv_at hl 0 rfl) ?_
  refine lv_iload_n hx hb dL_append_1 rfl (lv_at hl 1 rfl) ?_
  refine ow_V (As := [.int p1]) (rest := []) ⟨hx, hb, hml, hown, hts⟩ (o_append l hst D y s.heap.size at_ V p1 hO hM) (cwV 1 hts gL_append_X7_append rfl rfl rfl (by decide +kernel) ⟨(Nat.le_of_ble_eq_true rfl), (Nat.le_of_ble_eq_true rfl)⟩) he hK hP hD hS hA hZ hN hJ rfl hl.1 rfl (Nat.le_of_ble_eq_true rfl) dL_append_2 ⟨(Nat.le_of_ble_eq_true rfl), (Nat.le_of_ble_eq_true rfl)⟩ (fun hk V1 ce q9 H locs hO9 hP hD hS h1 h2 h3 => ?_) (fun hk r V1 H locs hO9 hP hD hS => ?_)
  · exact absurd rfl hk
  · rw [hQ0]
    exact oxret_i hx hb hr hlocks hAe hK hP hD hS (hO9) dL_append_5
set_option maxHeartbeats 4000000 in
set_option maxRecDepth 100000 in
theorem oL_append60 (l : Launch) (hst : l.stackTraces = false) (D : va_G) (y : Nat → ClassId) (sz at_ : Nat) {q : Lad} {us : List Lad} {sv : Option Lad} {rs dt ix lf : Int32} {tx : Nat → Int32} {NN : Nat} {TT : Nat → Nat} (V : va_W) (p1 : Int32) (hO : Ob y at_ q us sv rs dt ix lf 60 tx NN TT V) : vx_Met l yL_append wsL_append (rmx 12 400 1 6) (zlP D y V sz [.ref at_, .int p1]) (oQi D y 0 (fun r V' => r = -1001 ∧ Ob y at_ q us sv rs dt ix lf 60 tx NN TT V') V sz) (oX D y 0 (fun _ => False) V sz) 1 6 (va_A V sz) := by
  refine vx_ofWH (cc := cL_append) (maxL := 3) (ret := (some .int)) (hh := [(0, 5, 6, 110)]) (by decide) rfl ?_
  intro p e s m args below meth c s₁ B hml hv
  obtain ⟨hav, hsz, hP, hK, hD0, hZ, hN, hJ⟩ := hv
  have hx := B.exec
  have hb := B.bytes
  have hr := B.returns
  have hts := atoms_spec (ws := wsL_append) B.pre
  have hown : s.vm.findClass RL = some m.cls := findClass_of_methodNamed B.named
  have hlocks := B.notSynchronized
  have htab := vx_table (x := yL_append) B (hts _ List.mem_cons_self)
  subst hsz
  have hD := hD0.self (sz := s.heap.size)
  obtain ⟨A, hAe⟩ : ∃ A : Nat → Prop, va_A V s.heap.size = A := ⟨_, rfl⟩
  rw [hAe] at hD hZ hJ
  have hA : ∀ q, s.heap.size ≤ q → A q := fun q h => by rw [← hAe]; exact Or.inr h
  have hS : va_S A s.heap s.heap [] := va_S.rf
  have hP : va_P D vwCl (V ++ []) s.heap := by rw [List.append_nil]; exact hP
  have hD : va_D A (V ++ []) := by rw [List.append_nil]; exact hD
  obtain ⟨fs, he⟩ := Ob_head hO
  refine W_q (R1 := (rmx 12 400 1 6)) rfl (fun Q0 hQ0 => ?_)
  refine W_entry hav (Nat.le_of_ble_eq_true rfl) (fun ls hl => ?_)
  have hl : lv_has ls 3 [(0, .ref at_), (1, .int p1)] := hl
  refine lv_aload_n hx hb dL_append_0 rfl (lv_at hl 0 rfl) ?_
  refine lv_iload_n hx hb dL_append_1 rfl (lv_at hl 1 rfl) ?_
  refine ow_V (As := [.int p1]) (rest := []) ⟨hx, hb, hml, hown, hts⟩ (o_append60 l hst D y s.heap.size at_ V p1 hO) (cwV 1 hts gL_append_X7_append rfl rfl rfl (by decide +kernel) ⟨(Nat.le_of_ble_eq_true rfl), (Nat.le_of_ble_eq_true rfl)⟩) he hK hP hD hS hA hZ hN hJ rfl hl.1 rfl (Nat.le_of_ble_eq_true rfl) dL_append_2 ⟨(Nat.le_of_ble_eq_true rfl), (Nat.le_of_ble_eq_true rfl)⟩ (fun hk V1 ce q9 H locs hO9 hP hD hS h1 h2 h3 => ?_) (fun hk r V1 H locs hO9 hP hD hS => ?_)
  · rcases (show (5 = 0 ∨ 5 = 5) from Or.inr rfl) with h | h
    · exact absurd h hk
    · have h3 : s.vm.findClass (exn 5) = some ce.cls := by rw [← h]; exact h3
      refine vx_catch (own := RL) (E := "java/lang/IllegalStateException") (name := "java/lang/IllegalStateException") hown [] ⟨0, 5, 6, 110⟩ [] (htab.trans rfl) (List.forall_mem_nil _) (by decide) (by decide) (hts (.classLink RL 110 "java/lang/IllegalStateException") (List.mem_of_getElem? (i := 1) rfl)) (va_Nw.use rfl (hZ.2.2.2 _ (by decide))) h1 h2 h3 ?_
      refine lv_astore_n (lv' := [(2, .ref q9), (0, .ref at_), (1, .int p1)]) hx hb dL_append_6 rfl hl (by decide) rfl (fun ls hl => ?_)
      refine lv_sipush (v := -1001) hx hb dL_append_7 (by decide) ?_
      rw [hQ0]
      exact oxret_i hx hb hr hlocks hAe hK hP hD hS (⟨rfl, hO9⟩) dL_append_10
  · rw [hQ0]
    exact oxret_i hx hb hr hlocks hAe hK hP hD hS (hO9.elim) dL_append_5
set_option maxHeartbeats 4000000 in
set_option maxRecDepth 100000 in
theorem oL_undo (l : Launch) (hst : l.stackTraces = false) (D : va_G) (y : Nat → ClassId) (sz at_ : Nat) {q : Lad} {us : List Lad} {sv : Option Lad} {rs dt ix lf : Int32} {M : Nat} {tx : Nat → Int32} {NN : Nat} {TT : Nat → Nat} (V : va_W) (hO : Ob y at_ q us sv rs dt ix lf M tx NN TT V) : vx_Met l yL_undo wsL_undo (rmx 12 400 1 6) (zlP D y V sz [.ref at_]) (oQi D y 0 (fun r V' => (∃ q2 vs, us = q2 :: vs ∧ r = nI vs.length ∧ GL q2 ∧ Ob y at_ q2 vs sv rs dt ix lf M tx NN TT V') ∨ (us = [] ∧ r = -1001 ∧ Ob y at_ q us sv rs dt ix lf M tx NN TT V')) V sz) (oX D y 0 (fun _ => False) V sz) 1 6 (va_A V sz) := by
  refine vx_ofWH (cc := cL_undo) (maxL := 2) (ret := (some .int)) (hh := [(0, 4, 5, 110)]) (by decide) rfl ?_
  intro p e s m args below meth c s₁ B hml hv
  obtain ⟨hav, hsz, hP, hK, hD0, hZ, hN, hJ⟩ := hv
  have hx := B.exec
  have hb := B.bytes
  have hr := B.returns
  have hts := atoms_spec (ws := wsL_undo) B.pre
  have hown : s.vm.findClass RL = some m.cls := findClass_of_methodNamed B.named
  have hlocks := B.notSynchronized
  have htab := vx_table (x := yL_undo) B (hts _ List.mem_cons_self)
  subst hsz
  have hD := hD0.self (sz := s.heap.size)
  obtain ⟨A, hAe⟩ : ∃ A : Nat → Prop, va_A V s.heap.size = A := ⟨_, rfl⟩
  rw [hAe] at hD hZ hJ
  have hA : ∀ q, s.heap.size ≤ q → A q := fun q h => by rw [← hAe]; exact Or.inr h
  have hS : va_S A s.heap s.heap [] := va_S.rf
  have hP : va_P D vwCl (V ++ []) s.heap := by rw [List.append_nil]; exact hP
  have hD : va_D A (V ++ []) := by rw [List.append_nil]; exact hD
  obtain ⟨fs, he⟩ := Ob_head hO
  refine W_q (R1 := (rmx 12 400 1 6)) rfl (fun Q0 hQ0 => ?_)
  refine W_entry hav (Nat.le_of_ble_eq_true rfl) (fun ls hl => ?_)
  have hl : lv_has ls 2 [(0, .ref at_)] := hl
  refine lv_aload_n hx hb dL_undo_0 rfl (lv_at hl 0 rfl) ?_
  refine ow_V (As := []) (rest := []) ⟨hx, hb, hml, hown, hts⟩ (o_undo l hst D y s.heap.size at_ V hO) (cwV 0 hts gL_undo_X7_undo rfl rfl rfl (by decide +kernel) ⟨(Nat.le_of_ble_eq_true rfl), (Nat.le_of_ble_eq_true rfl)⟩) he hK hP hD hS hA hZ hN hJ rfl hl.1 rfl (Nat.le_of_ble_eq_true rfl) dL_undo_1 ⟨(Nat.le_of_ble_eq_true rfl), (Nat.le_of_ble_eq_true rfl)⟩ (fun hk V1 ce q9 H locs hO9 hP hD hS h1 h2 h3 => ?_) (fun hk r V1 H locs hO9 hP hD hS => ?_)
  · rcases (ite50 (c := us = [])) with h | h
    · exact absurd h hk
    · have h3 : s.vm.findClass (exn 5) = some ce.cls := by rw [← h]; exact h3
      refine vx_catch (own := RL) (E := "java/lang/IllegalStateException") (name := "java/lang/IllegalStateException") hown [] ⟨0, 4, 5, 110⟩ [] (htab.trans rfl) (List.forall_mem_nil _) (by decide) (by decide) (hts (.classLink RL 110 "java/lang/IllegalStateException") (List.mem_of_getElem? (i := 1) rfl)) (va_Nw.use rfl (hZ.2.2.2 _ (by decide))) h1 h2 h3 ?_
      refine lv_astore_n (lv' := [(1, .ref q9), (0, .ref at_)]) hx hb dL_undo_5 rfl hl (by decide) rfl (fun ls hl => ?_)
      refine lv_sipush (v := -1001) hx hb dL_undo_6 (by decide) ?_
      rw [hQ0]
      exact oxret_i hx hb hr hlocks hAe hK hP hD hS (Or.inr ⟨hO9.1, rfl, hO9.2⟩) dL_undo_9
  · rw [hQ0]
    exact oxret_i hx hb hr hlocks hAe hK hP hD hS (Or.inl hO9) dL_undo_4
set_option maxHeartbeats 4000000 in
set_option maxRecDepth 100000 in
theorem oL_restore (l : Launch) (hst : l.stackTraces = false) (D : va_G) (y : Nat → ClassId) (sz at_ : Nat) {q : Lad} {us : List Lad} {sv : Option Lad} {rs dt ix lf : Int32} {M : Nat} {tx : Nat → Int32} {NN : Nat} {TT : Nat → Nat} (V : va_W) (hO : Ob y at_ q us sv rs dt ix lf M tx NN TT V) : vx_Met l yL_restore wsL_restore (rmx 12 400 1 6) (zlP D y V sz [.ref at_]) (oQi D y 0 (fun r V' => (∃ q2, sv = some q2 ∧ r = q2.1 ∧ GL q2 ∧ Ob y at_ q2 ([]) sv rs dt ix lf M tx NN TT V') ∨ (sv = none ∧ r = -1001 ∧ Ob y at_ q us sv rs dt ix lf M tx NN TT V')) V sz) (oX D y 0 (fun _ => False) V sz) 1 6 (va_A V sz) := by
  refine vx_ofWH (cc := cL_restore) (maxL := 2) (ret := (some .int)) (hh := [(0, 4, 5, 110)]) (by decide) rfl ?_
  intro p e s m args below meth c s₁ B hml hv
  obtain ⟨hav, hsz, hP, hK, hD0, hZ, hN, hJ⟩ := hv
  have hx := B.exec
  have hb := B.bytes
  have hr := B.returns
  have hts := atoms_spec (ws := wsL_restore) B.pre
  have hown : s.vm.findClass RL = some m.cls := findClass_of_methodNamed B.named
  have hlocks := B.notSynchronized
  have htab := vx_table (x := yL_restore) B (hts _ List.mem_cons_self)
  subst hsz
  have hD := hD0.self (sz := s.heap.size)
  obtain ⟨A, hAe⟩ : ∃ A : Nat → Prop, va_A V s.heap.size = A := ⟨_, rfl⟩
  rw [hAe] at hD hZ hJ
  have hA : ∀ q, s.heap.size ≤ q → A q := fun q h => by rw [← hAe]; exact Or.inr h
  have hS : va_S A s.heap s.heap [] := va_S.rf
  have hP : va_P D vwCl (V ++ []) s.heap := by rw [List.append_nil]; exact hP
  have hD : va_D A (V ++ []) := by rw [List.append_nil]; exact hD
  obtain ⟨fs, he⟩ := Ob_head hO
  refine W_q (R1 := (rmx 12 400 1 6)) rfl (fun Q0 hQ0 => ?_)
  refine W_entry hav (Nat.le_of_ble_eq_true rfl) (fun ls hl => ?_)
  have hl : lv_has ls 2 [(0, .ref at_)] := hl
  refine lv_aload_n hx hb dL_restore_0 rfl (lv_at hl 0 rfl) ?_
  refine ow_V (As := []) (rest := []) ⟨hx, hb, hml, hown, hts⟩ (o_restore l hst D y s.heap.size at_ V hO) (cwV 0 hts gL_restore_X7_restore rfl rfl rfl (by decide +kernel) ⟨(Nat.le_of_ble_eq_true rfl), (Nat.le_of_ble_eq_true rfl)⟩) he hK hP hD hS hA hZ hN hJ rfl hl.1 rfl (Nat.le_of_ble_eq_true rfl) dL_restore_1 ⟨(Nat.le_of_ble_eq_true rfl), (Nat.le_of_ble_eq_true rfl)⟩ (fun hk V1 ce q9 H locs hO9 hP hD hS h1 h2 h3 => ?_) (fun hk r V1 H locs hO9 hP hD hS => ?_)
  · rcases (ite50 (c := sv = none)) with h | h
    · exact absurd h hk
    · have h3 : s.vm.findClass (exn 5) = some ce.cls := by rw [← h]; exact h3
      refine vx_catch (own := RL) (E := "java/lang/IllegalStateException") (name := "java/lang/IllegalStateException") hown [] ⟨0, 4, 5, 110⟩ [] (htab.trans rfl) (List.forall_mem_nil _) (by decide) (by decide) (hts (.classLink RL 110 "java/lang/IllegalStateException") (List.mem_of_getElem? (i := 1) rfl)) (va_Nw.use rfl (hZ.2.2.2 _ (by decide))) h1 h2 h3 ?_
      refine lv_astore_n (lv' := [(1, .ref q9), (0, .ref at_)]) hx hb dL_restore_5 rfl hl (by decide) rfl (fun ls hl => ?_)
      refine lv_sipush (v := -1001) hx hb dL_restore_6 (by decide) ?_
      rw [hQ0]
      exact oxret_i hx hb hr hlocks hAe hK hP hD hS (Or.inr ⟨hO9.1, rfl, hO9.2⟩) dL_restore_9
  · rw [hQ0]
    exact oxret_i hx hb hr hlocks hAe hK hP hD hS (Or.inl hO9) dL_restore_4
set_option maxHeartbeats 4000000 in
set_option maxRecDepth 100000 in
theorem oL_commands (l : Launch) (hst : l.stackTraces = false) (D : va_G) (y : Nat → ClassId) (sz at_ : Nat) {q : Lad} {us : List Lad} {sv : Option Lad} {rs dt ix lf : Int32} {M : Nat} {tx : Nat → Int32} {NN : Nat} {TT : Nat → Nat} (V : va_W) (hO : Ob y at_ q us sv rs dt ix lf M tx NN TT V) : vx_Met l yL_commands wsL_commands (rmx 12 400 1 6) (zlP D y V sz [.ref at_]) (oQi D y 0 (fun r V' => (∃ x, ps M tx 61 0 = some x ∧ r = -1001 ∧ Ob y at_ q us sv rs dt ix (nI x) 0 tx NN TT V') ∨ (ps M tx 61 0 = none ∧ ∃ v rs2 dt2 ix2, CTX q rs dt ix M tx v rs2 dt2 ix2 ∧ ((v = -1 ∧ r = -1002 ∧ Ob y at_ q us sv rs2 dt2 ix2 (-1) 0 tx NN TT V') ∨ (r = v ∧ 0 ≤ v ∧ ∃ q2, GL q2 ∧ Ob y at_ q2 (push q us) sv rs2 dt2 ix2 (-1) 0 tx NN TT V')))) V sz) (oX D y 0 (fun _ => False) V sz) 1 6 (va_A V sz) := by
  refine vx_ofWH (cc := cL_commands) (maxL := 2) (ret := (some .int)) (hh := [(0, 4, 5, 41), (0, 4, 10, 13)]) (by decide) rfl ?_
  intro p e s m args below meth c s₁ B hml hv
  obtain ⟨hav, hsz, hP, hK, hD0, hZ, hN, hJ⟩ := hv
  have hx := B.exec
  have hb := B.bytes
  have hr := B.returns
  have hts := atoms_spec (ws := wsL_commands) B.pre
  have hown : s.vm.findClass RL = some m.cls := findClass_of_methodNamed B.named
  have hlocks := B.notSynchronized
  have htab := vx_table (x := yL_commands) B (hts _ List.mem_cons_self)
  subst hsz
  have hD := hD0.self (sz := s.heap.size)
  obtain ⟨A, hAe⟩ : ∃ A : Nat → Prop, va_A V s.heap.size = A := ⟨_, rfl⟩
  rw [hAe] at hD hZ hJ
  have hA : ∀ q, s.heap.size ≤ q → A q := fun q h => by rw [← hAe]; exact Or.inr h
  have hS : va_S A s.heap s.heap [] := va_S.rf
  have hP : va_P D vwCl (V ++ []) s.heap := by rw [List.append_nil]; exact hP
  have hD : va_D A (V ++ []) := by rw [List.append_nil]; exact hD
  obtain ⟨fs, he⟩ := Ob_head hO
  obtain ⟨k9, hk9, hM9⟩ := o_commands l hst D y s.heap.size at_ V hO
  refine W_q (R1 := (rmx 12 400 1 6)) rfl (fun Q0 hQ0 => ?_)
  refine W_entry hav (Nat.le_of_ble_eq_true rfl) (fun ls hl => ?_)
  have hl : lv_has ls 2 [(0, .ref at_)] := hl
  refine lv_aload_n hx hb dL_commands_0 rfl (lv_at hl 0 rfl) ?_
  refine ow_V (As := []) (rest := []) ⟨hx, hb, hml, hown, hts⟩ (hM9) (cwV 0 hts gL_commands_X7_commands rfl rfl rfl (by decide +kernel) ⟨(Nat.le_of_ble_eq_true rfl), (Nat.le_of_ble_eq_true rfl)⟩) he hK hP hD hS hA hZ hN hJ rfl hl.1 rfl (Nat.le_of_ble_eq_true rfl) dL_commands_1 ⟨(Nat.le_of_ble_eq_true rfl), (Nat.le_of_ble_eq_true rfl)⟩ (fun hk V1 ce q9 H locs hO9 hP hD hS h1 h2 h3 => ?_) (fun hk r V1 H locs hO9 hP hD hS => ?_)
  · rcases hk9 with h | h | h
    · exact absurd h hk
    · have h3 : s.vm.findClass (exn 1) = some ce.cls := by rw [← h]; exact h3
      refine vx_catch (own := RL) (E := "java/lang/IllegalArgumentException") (name := "java/lang/IllegalArgumentException") hown [] ⟨0, 4, 5, 41⟩ [⟨0, 4, 10, 13⟩] (htab.trans rfl) (List.forall_mem_nil _) (by decide) (by decide) (hts (.classLink RL 41 "java/lang/IllegalArgumentException") (List.mem_of_getElem? (i := 1) rfl)) (va_Nw.use rfl (hZ.2.2.2 _ (by decide))) h1 h2 h3 ?_
      refine lv_astore_n (lv' := [(1, .ref q9), (0, .ref at_)]) hx hb dL_commands_5 rfl hl (by decide) rfl (fun ls hl => ?_)
      refine lv_sipush (v := -1001) hx hb dL_commands_6 (by decide) ?_
      rw [hQ0]
      exact oxret_i hx hb hr hlocks hAe hK hP hD hS (by
        rcases hO9 with ⟨g1, x, g2, g3⟩ | ⟨g1, g2, rs2, dt2, ix2, g3, g4⟩
        · exact Or.inl ⟨x, g2, rfl, g3⟩
        · exact absurd (h.symm.trans g1) (by decide)) dL_commands_9
    · have h3 : s.vm.findClass (exn 4) = some ce.cls := by rw [← h]; exact h3
      refine vx_catch (own := RL) (E := "java/lang/UnsupportedOperationException") (name := "java/lang/UnsupportedOperationException") hown [⟨0, 4, 5, 41⟩] ⟨0, 4, 10, 13⟩ [] (htab.trans rfl) (List.forall_mem_cons.mpr ⟨Or.inr ⟨by decide, "java/lang/IllegalArgumentException", (hts (.classLink RL 41 "java/lang/IllegalArgumentException") (List.mem_of_getElem? (i := 1) rfl)), hN _ (show ("java/lang/UnsupportedOperationException", "java/lang/IllegalArgumentException") ∈ ncs by decide)⟩, List.forall_mem_nil _⟩) (by decide) (by decide) (hts (.classLink RL 13 "java/lang/UnsupportedOperationException") (List.mem_of_getElem? (i := 2) rfl)) (va_Nw.use rfl (hZ.2.2.2 _ (by decide))) h1 h2 h3 ?_
      refine lv_astore_n (lv' := [(1, .ref q9), (0, .ref at_)]) hx hb dL_commands_10 rfl hl (by decide) rfl (fun ls hl => ?_)
      refine lv_sipush (v := -1002) hx hb dL_commands_11 (by decide) ?_
      rw [hQ0]
      exact oxret_i hx hb hr hlocks hAe hK hP hD hS (by
        rcases hO9 with ⟨g1, x, g2, g3⟩ | ⟨g1, g2, rs2, dt2, ix2, g3, g4⟩
        · exact absurd (h.symm.trans g1) (by decide)
        · exact Or.inr ⟨g2, -1, rs2, dt2, ix2, g3, Or.inl ⟨rfl, rfl, g4⟩⟩) dL_commands_14
  · rw [hQ0]
    exact oxret_i hx hb hr hlocks hAe hK hP hD hS (by
      obtain ⟨v, rs2, dt2, ix2, q2, g1, g2, g3, g4, g5, g6⟩ := hO9
      exact Or.inr ⟨g1, v, rs2, dt2, ix2, g2, Or.inr ⟨g3, g4, q2, g5, g6⟩⟩) dL_commands_4
set_option maxHeartbeats 4000000 in
set_option maxRecDepth 100000 in
theorem oL_line (l : Launch) (hst : l.stackTraces = false) (D : va_G) (y : Nat → ClassId) (sz at_ : Nat) {q : Lad} {us : List Lad} {sv : Option Lad} {rs dt ix lf : Int32} {M : Nat} {tx : Nat → Int32} {NN : Nat} {TT : Nat → Nat} (V : va_W) (p1 : Int32) (hO : Ob y at_ q us sv rs dt ix lf M tx NN TT V) : vx_Met l yL_line wsL_line (rmx 12 400 120 450) (zlP D y V sz [.ref at_, .int p1]) (oQi D y 0 (fun r V' => (dLv p1 = 0 ∧ r = nI (lnq q p1).2 ∧ Ob y at_ q us sv rs dt ix lf M tx ((lnq q p1).2) ((lnq q p1).1) V') ∨ (¬ dLv p1 = 0 ∧ r = -1001 ∧ Ob y at_ q us sv rs dt ix lf M tx NN TT V')) V sz) (oX D y 0 (fun _ => False) V sz) 120 450 (va_A V sz) := by
  refine vx_ofWH (cc := cL_line) (maxL := 3) (ret := (some .int)) (hh := [(0, 5, 6, 87)]) (by decide) rfl ?_
  intro p e s m args below meth c s₁ B hml hv
  obtain ⟨hav, hsz, hP, hK, hD0, hZ, hN, hJ⟩ := hv
  have hx := B.exec
  have hb := B.bytes
  have hr := B.returns
  have hts := atoms_spec (ws := wsL_line) B.pre
  have hown : s.vm.findClass RL = some m.cls := findClass_of_methodNamed B.named
  have hlocks := B.notSynchronized
  have htab := vx_table (x := yL_line) B (hts _ List.mem_cons_self)
  subst hsz
  have hD := hD0.self (sz := s.heap.size)
  obtain ⟨A, hAe⟩ : ∃ A : Nat → Prop, va_A V s.heap.size = A := ⟨_, rfl⟩
  rw [hAe] at hD hZ hJ
  have hA : ∀ q, s.heap.size ≤ q → A q := fun q h => by rw [← hAe]; exact Or.inr h
  have hS : va_S A s.heap s.heap [] := va_S.rf
  have hP : va_P D vwCl (V ++ []) s.heap := by rw [List.append_nil]; exact hP
  have hD : va_D A (V ++ []) := by rw [List.append_nil]; exact hD
  obtain ⟨fs, he⟩ := Ob_head hO
  refine W_q (R1 := (rmx 12 400 120 450)) rfl (fun Q0 hQ0 => ?_)
  refine W_entry hav (Nat.le_of_ble_eq_true rfl) (fun ls hl => ?_)
  have hl : lv_has ls 3 [(0, .ref at_), (1, .int p1)] := hl
  refine lv_aload_n hx hb dL_line_0 rfl (lv_at hl 0 rfl) ?_
  refine lv_iload_n hx hb dL_line_1 rfl (lv_at hl 1 rfl) ?_
  refine ow_V (As := [.int p1]) (rest := []) ⟨hx, hb, hml, hown, hts⟩ (o_line l hst D y s.heap.size at_ V p1 hO) (cwV 1 hts gL_line_X7_line rfl rfl rfl (by decide +kernel) ⟨(Nat.le_of_ble_eq_true rfl), (Nat.le_of_ble_eq_true rfl)⟩) he hK hP hD hS hA hZ hN hJ rfl hl.1 rfl (Nat.le_of_ble_eq_true rfl) dL_line_2 ⟨(Nat.le_of_ble_eq_true rfl), (Nat.le_of_ble_eq_true rfl)⟩ (fun hk V1 ce q9 H locs hO9 hP hD hS h1 h2 h3 => ?_) (fun hk r V1 H locs hO9 hP hD hS => ?_)
  · rcases (K_dLv (p1 := p1)) with h | h
    · exact absurd h hk
    · have h3 : s.vm.findClass (exn 3) = some ce.cls := by rw [← h]; exact h3
      refine vx_catch (own := RL) (E := "java/lang/IndexOutOfBoundsException") (name := "java/lang/IndexOutOfBoundsException") hown [] ⟨0, 5, 6, 87⟩ [] (htab.trans rfl) (List.forall_mem_nil _) (by decide) (by decide) (hts (.classLink RL 87 "java/lang/IndexOutOfBoundsException") (List.mem_of_getElem? (i := 1) rfl)) (va_Nw.use rfl (hZ.2.2.2 _ (by decide))) h1 h2 h3 ?_
      refine lv_astore_n (lv' := [(2, .ref q9), (0, .ref at_), (1, .int p1)]) hx hb dL_line_6 rfl hl (by decide) rfl (fun ls hl => ?_)
      refine lv_sipush (v := -1001) hx hb dL_line_7 (by decide) ?_
      rw [hQ0]
      exact oxret_i hx hb hr hlocks hAe hK hP hD hS (Or.inr ⟨hk, rfl, hO9⟩) dL_line_10
  · rw [hQ0]
    exact oxret_i hx hb hr hlocks hAe hK hP hD hS (Or.inl ⟨hk, hO9⟩) dL_line_5
set_option maxHeartbeats 4000000 in
set_option maxRecDepth 100000 in
theorem oL_character0 (l : Launch) (hst : l.stackTraces = false) (D : va_G) (y : Nat → ClassId) (sz at_ : Nat) {q : Lad} {us : List Lad} {sv : Option Lad} {rs dt ix lf : Int32} {M : Nat} {tx : Nat → Int32} {NN : Nat} {TT : Nat → Nat} (V : va_W) (hO : Ob y at_ q us sv rs dt ix lf M tx NN TT V) (i : Nat) (hi : i < NN) : vx_Met l yL_character wsL_character (rmx 12 400 1 6) (zlP D y V sz [.ref at_, .int (nI i)]) (oQi D y 0 (fun r V' => r = nI (TT i) ∧ Ob y at_ q us sv rs dt ix lf M tx NN TT V') V sz) (oX D y 0 (fun _ => False) V sz) 1 6 (va_A V sz) := by
  refine vx_ofWH (cc := cL_character) (maxL := 3) (ret := (some .int)) (hh := [(0, 5, 6, 87)]) (by decide) rfl ?_
  intro p e s m args below meth c s₁ B hml hv
  obtain ⟨hav, hsz, hP, hK, hD0, hZ, hN, hJ⟩ := hv
  have hx := B.exec
  have hb := B.bytes
  have hr := B.returns
  have hts := atoms_spec (ws := wsL_character) B.pre
  have hown : s.vm.findClass RL = some m.cls := findClass_of_methodNamed B.named
  have hlocks := B.notSynchronized
  have htab := vx_table (x := yL_character) B (hts _ List.mem_cons_self)
  subst hsz
  have hD := hD0.self (sz := s.heap.size)
  obtain ⟨A, hAe⟩ : ∃ A : Nat → Prop, va_A V s.heap.size = A := ⟨_, rfl⟩
  rw [hAe] at hD hZ hJ
  have hA : ∀ q, s.heap.size ≤ q → A q := fun q h => by rw [← hAe]; exact Or.inr h
  have hS : va_S A s.heap s.heap [] := va_S.rf
  have hP : va_P D vwCl (V ++ []) s.heap := by rw [List.append_nil]; exact hP
  have hD : va_D A (V ++ []) := by rw [List.append_nil]; exact hD
  obtain ⟨fs, he⟩ := Ob_head hO
  refine W_q (R1 := (rmx 12 400 1 6)) rfl (fun Q0 hQ0 => ?_)
  refine W_entry hav (Nat.le_of_ble_eq_true rfl) (fun ls hl => ?_)
  have hl : lv_has ls 3 [(0, .ref at_), (1, .int (nI i))] := hl
  refine lv_aload_n hx hb dL_character_0 rfl (lv_at hl 0 rfl) ?_
  refine lv_iload_n hx hb dL_character_1 rfl (lv_at hl 1 rfl) ?_
  refine ow_V (As := [.int (nI i)]) (rest := []) ⟨hx, hb, hml, hown, hts⟩ (o_character0 l hst D y s.heap.size at_ V i hi hO) (cwV 1 hts gL_character_X7_character rfl rfl rfl (by decide +kernel) ⟨(Nat.le_of_ble_eq_true rfl), (Nat.le_of_ble_eq_true rfl)⟩) he hK hP hD hS hA hZ hN hJ rfl hl.1 rfl (Nat.le_of_ble_eq_true rfl) dL_character_2 ⟨(Nat.le_of_ble_eq_true rfl), (Nat.le_of_ble_eq_true rfl)⟩ (fun hk V1 ce q9 H locs hO9 hP hD hS h1 h2 h3 => ?_) (fun hk r V1 H locs hO9 hP hD hS => ?_)
  · exact absurd rfl hk
  · rw [hQ0]
    exact oxret_i hx hb hr hlocks hAe hK hP hD hS (hO9) dL_character_5
set_option maxHeartbeats 4000000 in
set_option maxRecDepth 100000 in
theorem oL_character3 (l : Launch) (hst : l.stackTraces = false) (D : va_G) (y : Nat → ClassId) (sz at_ : Nat) {q : Lad} {us : List Lad} {sv : Option Lad} {rs dt ix lf : Int32} {M : Nat} {tx : Nat → Int32} {NN : Nat} {TT : Nat → Nat} (V : va_W) (p1 : Int32) (hO : Ob y at_ q us sv rs dt ix lf M tx NN TT V) (hp : p1 < 0 ∨ nI NN ≤ p1) : vx_Met l yL_character wsL_character (rmx 12 400 1 6) (zlP D y V sz [.ref at_, .int p1]) (oQi D y 0 (fun r V' => r = -1001 ∧ Ob y at_ q us sv rs dt ix lf M tx NN TT V') V sz) (oX D y 0 (fun _ => False) V sz) 1 6 (va_A V sz) := by
  refine vx_ofWH (cc := cL_character) (maxL := 3) (ret := (some .int)) (hh := [(0, 5, 6, 87)]) (by decide) rfl ?_
  intro p e s m args below meth c s₁ B hml hv
  obtain ⟨hav, hsz, hP, hK, hD0, hZ, hN, hJ⟩ := hv
  have hx := B.exec
  have hb := B.bytes
  have hr := B.returns
  have hts := atoms_spec (ws := wsL_character) B.pre
  have hown : s.vm.findClass RL = some m.cls := findClass_of_methodNamed B.named
  have hlocks := B.notSynchronized
  have htab := vx_table (x := yL_character) B (hts _ List.mem_cons_self)
  subst hsz
  have hD := hD0.self (sz := s.heap.size)
  obtain ⟨A, hAe⟩ : ∃ A : Nat → Prop, va_A V s.heap.size = A := ⟨_, rfl⟩
  rw [hAe] at hD hZ hJ
  have hA : ∀ q, s.heap.size ≤ q → A q := fun q h => by rw [← hAe]; exact Or.inr h
  have hS : va_S A s.heap s.heap [] := va_S.rf
  have hP : va_P D vwCl (V ++ []) s.heap := by rw [List.append_nil]; exact hP
  have hD : va_D A (V ++ []) := by rw [List.append_nil]; exact hD
  obtain ⟨fs, he⟩ := Ob_head hO
  refine W_q (R1 := (rmx 12 400 1 6)) rfl (fun Q0 hQ0 => ?_)
  refine W_entry hav (Nat.le_of_ble_eq_true rfl) (fun ls hl => ?_)
  have hl : lv_has ls 3 [(0, .ref at_), (1, .int p1)] := hl
  refine lv_aload_n hx hb dL_character_0 rfl (lv_at hl 0 rfl) ?_
  refine lv_iload_n hx hb dL_character_1 rfl (lv_at hl 1 rfl) ?_
  refine ow_V (As := [.int p1]) (rest := []) ⟨hx, hb, hml, hown, hts⟩ (o_character3 l hst D y s.heap.size at_ V p1 hp hO) (cwV 1 hts gL_character_X7_character rfl rfl rfl (by decide +kernel) ⟨(Nat.le_of_ble_eq_true rfl), (Nat.le_of_ble_eq_true rfl)⟩) he hK hP hD hS hA hZ hN hJ rfl hl.1 rfl (Nat.le_of_ble_eq_true rfl) dL_character_2 ⟨(Nat.le_of_ble_eq_true rfl), (Nat.le_of_ble_eq_true rfl)⟩ (fun hk V1 ce q9 H locs hO9 hP hD hS h1 h2 h3 => ?_) (fun hk r V1 H locs hO9 hP hD hS => ?_)
  · rcases (show (3 = 0 ∨ 3 = 3) from Or.inr rfl) with h | h
    · exact absurd h hk
    · have h3 : s.vm.findClass (exn 3) = some ce.cls := by rw [← h]; exact h3
      refine vx_catch (own := RL) (E := "java/lang/IndexOutOfBoundsException") (name := "java/lang/IndexOutOfBoundsException") hown [] ⟨0, 5, 6, 87⟩ [] (htab.trans rfl) (List.forall_mem_nil _) (by decide) (by decide) (hts (.classLink RL 87 "java/lang/IndexOutOfBoundsException") (List.mem_of_getElem? (i := 1) rfl)) (va_Nw.use rfl (hZ.2.2.2 _ (by decide))) h1 h2 h3 ?_
      refine lv_astore_n (lv' := [(2, .ref q9), (0, .ref at_), (1, .int p1)]) hx hb dL_character_6 rfl hl (by decide) rfl (fun ls hl => ?_)
      refine lv_sipush (v := -1001) hx hb dL_character_7 (by decide) ?_
      rw [hQ0]
      exact oxret_i hx hb hr hlocks hAe hK hP hD hS (⟨rfl, hO9⟩) dL_character_10
  · rw [hQ0]
    exact oxret_i hx hb hr hlocks hAe hK hP hD hS (absurd hk (by decide)) dL_character_5
