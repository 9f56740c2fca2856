/-! the law's questions -/
theorem Ob_GL {y : Nat → ClassId} {at_ : Nat} {q : Lad} {us : List Lad} {sv : Option Lad} {rs dt ix lf : Int32} {M : Nat} {tx : Nat → Int32} {NN : Nat} {TT : Nat → Nat} {V : va_W} (h : Ob y at_ q us sv rs dt ix lf M tx NN TT V) : GL q := by
  obtain ⟨u, v, mm, ml, bb, t_saved, t_ladder_size, t_ladder_hidden, t_ladder_keys, t_ladder_weights, t_ladder_towers, t_ladder_coin_number, t_ladder_coin_tossed, t_ladder_coin_heads, t_search_place, t_search_level, t_search_gone, t_search_fallen, t_search_spanned, t_clerk_detail, t_order_sign, t_order_number, t_order_weight, t_order_rungs, t_reader_at, t_reader_faulty, t_history_newest, t_history_amount, t_history_rk, t_history_rw, t_history_rt, t_history_rs, t_history_rh, t_history_rn, t_history_ro, t_history_rd, t_before_size, t_before_hidden, t_before_keys, t_before_weights, t_before_towers, t_before_coin_number, t_before_coin_tossed, t_before_coin_heads, t_snapshot_size, t_snapshot_hidden, t_snapshot_keys, t_snapshot_weights, t_snapshot_towers, t_snapshot_coin_number, t_snapshot_coin_tossed, t_snapshot_coin_heads, rfl, hR⟩ := h
  exact hR.2.2.1
theorem ite04 {c : Prop} [Decidable c] : (if c then 0 else 4) = 0 ∨ (if c then 0 else 4) = 4 := by
  by_cases h : c
  · exact Or.inl (if_pos h)
  · exact Or.inr (if_neg h)
theorem ite50 {c : Prop} [Decidable c] : (if c then 5 else 0) = 0 ∨ (if c then 5 else 0) = 5 := by
  by_cases h : c
  · exact Or.inr (if_pos h)
  · exact Or.inl (if_neg h)
theorem K_dLv {p1 : Int32} : dLv p1 = 0 ∨ dLv p1 = 3 := by
  by_cases h : dLv p1 = 0
  · exact Or.inl h
  · exact Or.inr (dLv_3 h)
set_option maxHeartbeats 4000000 in
set_option maxRecDepth 100000 in
theorem oL_folderOf (l : Launch) (hst : l.stackTraces = false) (D : va_G) (y : Nat → ClassId) (sz at_ : Nat) {q : Lad} {us : List Lad} {sv : Option Lad} {rs dt ix lf : Int32} {M : Nat} {tx : Nat → Int32} {NN : Nat} {TT : Nat → Nat} (V : va_W) (p1 : Int32) (p2 : Int32) (hO : Ob y at_ q us sv rs dt ix lf M tx NN TT V) : vx_Met l yL_folderOf wsL_folderOf (rmx 12 400 3 18) (zlP D y V sz [.ref at_, .int p1, .int p2]) (oQi D y 0 (fun r V' => r = (lq_folderOf q p1 p2) ∧ Ob y at_ q us sv rs dt ix lf M tx NN TT V') V sz) (oX D y 0 (fun _ => False) V sz) 3 18 (va_A V sz) := by
  refine vx_ofWH (cc := cL_folderOf) (maxL := 4) (ret := (some .int)) (hh := [(0, 6, 7, 41), (0, 6, 12, 43)]) (by decide) rfl ?_
  intro p e s m args below meth c s₁ B hml hv
  obtain ⟨hav, hsz, hP, hK, hD0, hZ, hN, hJ⟩ := hv
  have hx := B.exec
  have hb := B.bytes
  have hr := B.returns
  have hts := atoms_spec (ws := wsL_folderOf) B.pre
  have hown : s.vm.findClass RL = some m.cls := findClass_of_methodNamed B.named
  have hlocks := B.notSynchronized
  have htab := vx_table (x := yL_folderOf) B (hts _ List.mem_cons_self)
  subst hsz
  have hD := hD0.self (sz := s.heap.size)
  obtain ⟨A, hAe⟩ : ∃ A : Nat → Prop, va_A V s.heap.size = A := ⟨_, rfl⟩
  rw [hAe] at hD hZ hJ
  have hA : ∀ q, s.heap.size ≤ q → A q := fun q h => by rw [← hAe]; exact Or.inr h
  have hS : va_S A s.heap s.heap [] := va_S.rf
  have hP : va_P D vwCl (V ++ []) s.heap := by rw [List.append_nil]; exact hP
  have hD : va_D A (V ++ []) := by rw [List.append_nil]; exact hD
  obtain ⟨fs, he⟩ := Ob_head hO
  refine W_q (R1 := (rmx 12 400 3 18)) rfl (fun Q0 hQ0 => ?_)
  refine W_entry hav (Nat.le_of_ble_eq_true rfl) (fun ls hl => ?_)
  have hl : lv_has ls 4 [(0, .ref at_), (1, .int p1), (2, .int p2)] := hl
  refine lv_aload_n hx hb dL_folderOf_0 rfl (lv_at hl 0 rfl) ?_
  refine lv_iload_n hx hb dL_folderOf_1 rfl (lv_at hl 1 rfl) ?_
  refine lv_iload_n hx hb dL_folderOf_2 rfl (lv_at hl 2 rfl) ?_
  refine ow_V (As := [.int p1, .int p2]) (rest := []) ⟨hx, hb, hml, hown, hts⟩ (o_folderOf l hst D y s.heap.size at_ V p1 p2 hO) (cwV 2 hts gL_folderOf_X7_folderOf rfl rfl rfl (by decide +kernel) ⟨(Nat.le_of_ble_eq_true rfl), (Nat.le_of_ble_eq_true rfl)⟩) he hK hP hD hS hA hZ hN hJ rfl hl.1 rfl (Nat.le_of_ble_eq_true rfl) dL_folderOf_3 ⟨(Nat.le_of_ble_eq_true rfl), (Nat.le_of_ble_eq_true rfl)⟩ (fun hk V1 ce q9 H locs hO9 hP hD hS h1 h2 h3 => ?_) (fun hk r V1 H locs hO9 hP hD hS => ?_)
  · rcases (K_folderOf (Ob_GL hO) (p1 := p1) (p2 := p2)) with h | h | h
    · exact absurd h hk
    · have h3 : s.vm.findClass (exn 1) = some ce.cls := by rw [← h]; exact h3
      refine vx_catch (own := RL) (E := "java/lang/IllegalArgumentException") (name := "java/lang/IllegalArgumentException") hown [] ⟨0, 6, 7, 41⟩ [⟨0, 6, 12, 43⟩] (htab.trans rfl) (List.forall_mem_nil _) (by decide) (by decide) (hts (.classLink RL 41 "java/lang/IllegalArgumentException") (List.mem_of_getElem? (i := 1) rfl)) (va_Nw.use rfl (hZ.2.2.2 _ (by decide))) h1 h2 h3 ?_
      refine lv_astore_n (lv' := [(3, .ref q9), (0, .ref at_), (1, .int p1), (2, .int p2)]) hx hb dL_folderOf_7 rfl hl (by decide) rfl (fun ls hl => ?_)
      refine lv_sipush (v := -1001) hx hb dL_folderOf_8 (by decide) ?_
      rw [hQ0]
      exact oxret_i hx hb hr hlocks hAe hK hP hD hS (⟨by unfold lq_folderOf; rw [h]; rfl, hO9⟩) dL_folderOf_11
    · have h3 : s.vm.findClass (exn 2) = some ce.cls := by rw [← h]; exact h3
      refine vx_catch (own := RL) (E := "java/util/NoSuchElementException") (name := "java/util/NoSuchElementException") hown [⟨0, 6, 7, 41⟩] ⟨0, 6, 12, 43⟩ [] (htab.trans rfl) (List.forall_mem_cons.mpr ⟨Or.inr ⟨by decide, "java/lang/IllegalArgumentException", (hts (.classLink RL 41 "java/lang/IllegalArgumentException") (List.mem_of_getElem? (i := 1) rfl)), hN _ (show ("java/util/NoSuchElementException", "java/lang/IllegalArgumentException") ∈ ncs by decide)⟩, List.forall_mem_nil _⟩) (by decide) (by decide) (hts (.classLink RL 43 "java/util/NoSuchElementException") (List.mem_of_getElem? (i := 2) rfl)) (va_Nw.use rfl (hZ.2.2.2 _ (by decide))) h1 h2 h3 ?_
      refine lv_astore_n (lv' := [(3, .ref q9), (0, .ref at_), (1, .int p1), (2, .int p2)]) hx hb dL_folderOf_12 rfl hl (by decide) rfl (fun ls hl => ?_)
      refine lv_sipush (v := -1002) hx hb dL_folderOf_13 (by decide) ?_
      rw [hQ0]
      exact oxret_i hx hb hr hlocks hAe hK hP hD hS (⟨by unfold lq_folderOf; rw [h]; rfl, hO9⟩) dL_folderOf_16
  · rw [hQ0]
    exact oxret_i hx hb hr hlocks hAe hK hP hD hS (⟨by unfold lq_folderOf; rw [if_pos hk]; exact hO9.1, hO9.2⟩) dL_folderOf_6
set_option maxHeartbeats 4000000 in
set_option maxRecDepth 100000 in
theorem oL_rank (l : Launch) (hst : l.stackTraces = false) (D : va_G) (y : Nat → ClassId) (sz at_ : Nat) {q : Lad} {us : List Lad} {sv : Option Lad} {rs dt ix lf : Int32} {M : Nat} {tx : Nat → Int32} {NN : Nat} {TT : Nat → Nat} (V : va_W) (p1 : Int32) (hO : Ob y at_ q us sv rs dt ix lf M tx NN TT V) : vx_Met l yL_rank wsL_rank (rmx 12 400 1 6) (zlP D y V sz [.ref at_, .int p1]) (oQi D y 0 (fun r V' => r = (lq_rank q p1) ∧ Ob y at_ q us sv rs dt ix lf M tx NN TT V') V sz) (oX D y 0 (fun _ => False) V sz) 1 6 (va_A V sz) := by
  refine vx_ofWH (cc := cL_rank) (maxL := 3) (ret := (some .int)) (hh := [(0, 5, 6, 41)]) (by decide) rfl ?_
  intro p e s m args below meth c s₁ B hml hv
  obtain ⟨hav, hsz, hP, hK, hD0, hZ, hN, hJ⟩ := hv
  have hx := B.exec
  have hb := B.bytes
  have hr := B.returns
  have hts := atoms_spec (ws := wsL_rank) B.pre
  have hown : s.vm.findClass RL = some m.cls := findClass_of_methodNamed B.named
  have hlocks := B.notSynchronized
  have htab := vx_table (x := yL_rank) B (hts _ List.mem_cons_self)
  subst hsz
  have hD := hD0.self (sz := s.heap.size)
  obtain ⟨A, hAe⟩ : ∃ A : Nat → Prop, va_A V s.heap.size = A := ⟨_, rfl⟩
  rw [hAe] at hD hZ hJ
  have hA : ∀ q, s.heap.size ≤ q → A q := fun q h => by rw [← hAe]; exact Or.inr h
  have hS : va_S A s.heap s.heap [] := va_S.rf
  have hP : va_P D vwCl (V ++ []) s.heap := by rw [List.append_nil]; exact hP
  have hD : va_D A (V ++ []) := by rw [List.append_nil]; exact hD
  obtain ⟨fs, he⟩ := Ob_head hO
  refine W_q (R1 := (rmx 12 400 1 6)) rfl (fun Q0 hQ0 => ?_)
  refine W_entry hav (Nat.le_of_ble_eq_true rfl) (fun ls hl => ?_)
  have hl : lv_has ls 3 [(0, .ref at_), (1, .int p1)] := hl
  refine lv_aload_n hx hb dL_rank_0 rfl (lv_at hl 0 rfl) ?_
  refine lv_iload_n hx hb dL_rank_1 rfl (lv_at hl 1 rfl) ?_
  refine ow_V (As := [.int p1]) (rest := []) ⟨hx, hb, hml, hown, hts⟩ (o_rank l hst D y s.heap.size at_ V p1 hO) (cwV 1 hts gL_rank_X7_rank rfl rfl rfl (by decide +kernel) ⟨(Nat.le_of_ble_eq_true rfl), (Nat.le_of_ble_eq_true rfl)⟩) he hK hP hD hS hA hZ hN hJ rfl hl.1 rfl (Nat.le_of_ble_eq_true rfl) dL_rank_2 ⟨(Nat.le_of_ble_eq_true rfl), (Nat.le_of_ble_eq_true rfl)⟩ (fun hk V1 ce q9 H locs hO9 hP hD hS h1 h2 h3 => ?_) (fun hk r V1 H locs hO9 hP hD hS => ?_)
  · rcases (K_rank (Ob_GL hO) (p1 := p1)) with h | h
    · exact absurd h hk
    · have h3 : s.vm.findClass (exn 1) = some ce.cls := by rw [← h]; exact h3
      refine vx_catch (own := RL) (E := "java/lang/IllegalArgumentException") (name := "java/lang/IllegalArgumentException") hown [] ⟨0, 5, 6, 41⟩ [] (htab.trans rfl) (List.forall_mem_nil _) (by decide) (by decide) (hts (.classLink RL 41 "java/lang/IllegalArgumentException") (List.mem_of_getElem? (i := 1) rfl)) (va_Nw.use rfl (hZ.2.2.2 _ (by decide))) h1 h2 h3 ?_
      refine lv_astore_n (lv' := [(2, .ref q9), (0, .ref at_), (1, .int p1)]) hx hb dL_rank_6 rfl hl (by decide) rfl (fun ls hl => ?_)
      refine lv_sipush (v := -1001) hx hb dL_rank_7 (by decide) ?_
      rw [hQ0]
      exact oxret_i hx hb hr hlocks hAe hK hP hD hS (⟨by unfold lq_rank; rw [h]; rfl, hO9⟩) dL_rank_10
  · rw [hQ0]
    exact oxret_i hx hb hr hlocks hAe hK hP hD hS (⟨by unfold lq_rank; rw [if_pos hk]; exact hO9.1, hO9.2⟩) dL_rank_5
set_option maxHeartbeats 4000000 in
set_option maxRecDepth 100000 in
theorem oL_rankAgain (l : Launch) (hst : l.stackTraces = false) (D : va_G) (y : Nat → ClassId) (sz at_ : Nat) {q : Lad} {us : List Lad} {sv : Option Lad} {rs dt ix lf : Int32} {M : Nat} {tx : Nat → Int32} {NN : Nat} {TT : Nat → Nat} (V : va_W) (p1 : Int32) (hO : Ob y at_ q us sv rs dt ix lf M tx NN TT V) : vx_Met l yL_rankAgain wsL_rankAgain (rmx 12 400 1 6) (zlP D y V sz [.ref at_, .int p1]) (oQi D y 0 (fun r V' => r = (lq_rankAgain q p1) ∧ Ob y at_ q us sv rs dt ix lf M tx NN TT V') V sz) (oX D y 0 (fun _ => False) V sz) 1 6 (va_A V sz) := by
  refine vx_ofWH (cc := cL_rankAgain) (maxL := 3) (ret := (some .int)) (hh := [(0, 5, 6, 41)]) (by decide) rfl ?_
  intro p e s m args below meth c s₁ B hml hv
  obtain ⟨hav, hsz, hP, hK, hD0, hZ, hN, hJ⟩ := hv
  have hx := B.exec
  have hb := B.bytes
  have hr := B.returns
  have hts := atoms_spec (ws := wsL_rankAgain) B.pre
  have hown : s.vm.findClass RL = some m.cls := findClass_of_methodNamed B.named
  have hlocks := B.notSynchronized
  have htab := vx_table (x := yL_rankAgain) B (hts _ List.mem_cons_self)
  subst hsz
  have hD := hD0.self (sz := s.heap.size)
  obtain ⟨A, hAe⟩ : ∃ A : Nat → Prop, va_A V s.heap.size = A := ⟨_, rfl⟩
  rw [hAe] at hD hZ hJ
  have hA : ∀ q, s.heap.size ≤ q → A q := fun q h => by rw [← hAe]; exact Or.inr h
  have hS : va_S A s.heap s.heap [] := va_S.rf
  have hP : va_P D vwCl (V ++ []) s.heap := by rw [List.append_nil]; exact hP
  have hD : va_D A (V ++ []) := by rw [List.append_nil]; exact hD
  obtain ⟨fs, he⟩ := Ob_head hO
  refine W_q (R1 := (rmx 12 400 1 6)) rfl (fun Q0 hQ0 => ?_)
  refine W_entry hav (Nat.le_of_ble_eq_true rfl) (fun ls hl => ?_)
  have hl : lv_has ls 3 [(0, .ref at_), (1, .int p1)] := hl
  refine lv_aload_n hx hb dL_rankAgain_0 rfl (lv_at hl 0 rfl) ?_
  refine lv_iload_n hx hb dL_rankAgain_1 rfl (lv_at hl 1 rfl) ?_
  refine ow_V (As := [.int p1]) (rest := []) ⟨hx, hb, hml, hown, hts⟩ (o_rankAgain l hst D y s.heap.size at_ V p1 hO) (cwV 1 hts gL_rankAgain_X7_rankAgain rfl rfl rfl (by decide +kernel) ⟨(Nat.le_of_ble_eq_true rfl), (Nat.le_of_ble_eq_true rfl)⟩) he hK hP hD hS hA hZ hN hJ rfl hl.1 rfl (Nat.le_of_ble_eq_true rfl) dL_rankAgain_2 ⟨(Nat.le_of_ble_eq_true rfl), (Nat.le_of_ble_eq_true rfl)⟩ (fun hk V1 ce q9 H locs hO9 hP hD hS h1 h2 h3 => ?_) (fun hk r V1 H locs hO9 hP hD hS => ?_)
  · rcases (K_rankAgain (Ob_GL hO) (p1 := p1)) with h | h
    · exact absurd h hk
    · have h3 : s.vm.findClass (exn 1) = some ce.cls := by rw [← h]; exact h3
      refine vx_catch (own := RL) (E := "java/lang/IllegalArgumentException") (name := "java/lang/IllegalArgumentException") hown [] ⟨0, 5, 6, 41⟩ [] (htab.trans rfl) (List.forall_mem_nil _) (by decide) (by decide) (hts (.classLink RL 41 "java/lang/IllegalArgumentException") (List.mem_of_getElem? (i := 1) rfl)) (va_Nw.use rfl (hZ.2.2.2 _ (by decide))) h1 h2 h3 ?_
      refine lv_astore_n (lv' := [(2, .ref q9), (0, .ref at_), (1, .int p1)]) hx hb dL_rankAgain_6 rfl hl (by decide) rfl (fun ls hl => ?_)
      refine lv_sipush (v := -1001) hx hb dL_rankAgain_7 (by decide) ?_
      rw [hQ0]
      exact oxret_i hx hb hr hlocks hAe hK hP hD hS (⟨by unfold lq_rankAgain; rw [h]; rfl, hO9⟩) dL_rankAgain_10
  · rw [hQ0]
    exact oxret_i hx hb hr hlocks hAe hK hP hD hS (⟨by unfold lq_rankAgain; rw [if_pos hk]; exact hO9.1, hO9.2⟩) dL_rankAgain_5
set_option maxHeartbeats 4000000 in
set_option maxRecDepth 100000 in
theorem oL_keyAt (l : Launch) (hst : l.stackTraces = false) (D : va_G) (y : Nat → ClassId) (sz at_ : Nat) {q : Lad} {us : List Lad} {sv : Option Lad} {rs dt ix lf : Int32} {M : Nat} {tx : Nat → Int32} {NN : Nat} {TT : Nat → Nat} (V : va_W) (p1 : Int32) (hO : Ob y at_ q us sv rs dt ix lf M tx NN TT V) : vx_Met l yL_keyAt wsL_keyAt (rmx 12 400 1 6) (zlP D y V sz [.ref at_, .int p1]) (oQi D y 0 (fun r V' => r = (lq_keyAt q p1) ∧ Ob y at_ q us sv rs dt ix lf M tx NN TT V') V sz) (oX D y 0 (fun _ => False) V sz) 1 6 (va_A V sz) := by
  refine vx_ofWH (cc := cL_keyAt) (maxL := 3) (ret := (some .int)) (hh := [(0, 5, 6, 43)]) (by decide) rfl ?_
  intro p e s m args below meth c s₁ B hml hv
  obtain ⟨hav, hsz, hP, hK, hD0, hZ, hN, hJ⟩ := hv
  have hx := B.exec
  have hb := B.bytes
  have hr := B.returns
  have hts := atoms_spec (ws := wsL_keyAt) B.pre
  have hown : s.vm.findClass RL = some m.cls := findClass_of_methodNamed B.named
  have hlocks := B.notSynchronized
  have htab := vx_table (x := yL_keyAt) B (hts _ List.mem_cons_self)
  subst hsz
  have hD := hD0.self (sz := s.heap.size)
  obtain ⟨A, hAe⟩ : ∃ A : Nat → Prop, va_A V s.heap.size = A := ⟨_, rfl⟩
  rw [hAe] at hD hZ hJ
  have hA : ∀ q, s.heap.size ≤ q → A q := fun q h => by rw [← hAe]; exact Or.inr h
  have hS : va_S A s.heap s.heap [] := va_S.rf
  have hP : va_P D vwCl (V ++ []) s.heap := by rw [List.append_nil]; exact hP
  have hD : va_D A (V ++ []) := by rw [List.append_nil]; exact hD
  obtain ⟨fs, he⟩ := Ob_head hO
  refine W_q (R1 := (rmx 12 400 1 6)) rfl (fun Q0 hQ0 => ?_)
  refine W_entry hav (Nat.le_of_ble_eq_true rfl) (fun ls hl => ?_)
  have hl : lv_has ls 3 [(0, .ref at_), (1, .int p1)] := hl
  refine lv_aload_n hx hb dL_keyAt_0 rfl (lv_at hl 0 rfl) ?_
  refine lv_iload_n hx hb dL_keyAt_1 rfl (lv_at hl 1 rfl) ?_
  refine ow_V (As := [.int p1]) (rest := []) ⟨hx, hb, hml, hown, hts⟩ (o_keyAt l hst D y s.heap.size at_ V p1 hO) (cwV 1 hts gL_keyAt_X7_keyAt rfl rfl rfl (by decide +kernel) ⟨(Nat.le_of_ble_eq_true rfl), (Nat.le_of_ble_eq_true rfl)⟩) he hK hP hD hS hA hZ hN hJ rfl hl.1 rfl (Nat.le_of_ble_eq_true rfl) dL_keyAt_2 ⟨(Nat.le_of_ble_eq_true rfl), (Nat.le_of_ble_eq_true rfl)⟩ (fun hk V1 ce q9 H locs hO9 hP hD hS h1 h2 h3 => ?_) (fun hk r V1 H locs hO9 hP hD hS => ?_)
  · rcases (K_keyAt (Ob_GL hO) (p1 := p1)) with h | h
    · exact absurd h hk
    · have h3 : s.vm.findClass (exn 2) = some ce.cls := by rw [← h]; exact h3
      refine vx_catch (own := RL) (E := "java/util/NoSuchElementException") (name := "java/util/NoSuchElementException") hown [] ⟨0, 5, 6, 43⟩ [] (htab.trans rfl) (List.forall_mem_nil _) (by decide) (by decide) (hts (.classLink RL 43 "java/util/NoSuchElementException") (List.mem_of_getElem? (i := 1) rfl)) (va_Nw.use rfl (hZ.2.2.2 _ (by decide))) h1 h2 h3 ?_
      refine lv_astore_n (lv' := [(2, .ref q9), (0, .ref at_), (1, .int p1)]) hx hb dL_keyAt_6 rfl hl (by decide) rfl (fun ls hl => ?_)
      refine lv_sipush (v := -1001) hx hb dL_keyAt_7 (by decide) ?_
      rw [hQ0]
      exact oxret_i hx hb hr hlocks hAe hK hP hD hS (⟨by unfold lq_keyAt; rw [h]; rfl, hO9⟩) dL_keyAt_10
  · rw [hQ0]
    exact oxret_i hx hb hr hlocks hAe hK hP hD hS (⟨by unfold lq_keyAt; rw [if_pos hk]; exact hO9.1, hO9.2⟩) dL_keyAt_5
set_option maxHeartbeats 4000000 in
set_option maxRecDepth 100000 in
theorem oL_steps (l : Launch) (hst : l.stackTraces = false) (D : va_G) (y : Nat → ClassId) (sz at_ : Nat) {q : Lad} {us : List Lad} {sv : Option Lad} {rs dt ix lf : Int32} {M : Nat} {tx : Nat → Int32} {NN : Nat} {TT : Nat → Nat} (V : va_W) (p1 : Int32) (hO : Ob y at_ q us sv rs dt ix lf M tx NN TT V) : vx_Met l yL_steps wsL_steps (rmx 12 400 1 6) (zlP D y V sz [.ref at_, .int p1]) (oQi D y 0 (fun r V' => r = (lq_steps q p1) ∧ Ob y at_ q us sv rs dt ix lf M tx NN TT V') V sz) (oX D y 0 (fun _ => False) V sz) 1 6 (va_A V sz) := by
  refine vx_ofWH (cc := cL_steps) (maxL := 3) (ret := (some .int)) (hh := [(0, 5, 6, 41)]) (by decide) rfl ?_
  intro p e s m args below meth c s₁ B hml hv
  obtain ⟨hav, hsz, hP, hK, hD0, hZ, hN, hJ⟩ := hv
  have hx := B.exec
  have hb := B.bytes
  have hr := B.returns
  have hts := atoms_spec (ws := wsL_steps) B.pre
  have hown : s.vm.findClass RL = some m.cls := findClass_of_methodNamed B.named
  have hlocks := B.notSynchronized
  have htab := vx_table (x := yL_steps) B (hts _ List.mem_cons_self)
  subst hsz
  have hD := hD0.self (sz := s.heap.size)
  obtain ⟨A, hAe⟩ : ∃ A : Nat → Prop, va_A V s.heap.size = A := ⟨_, rfl⟩
  rw [hAe] at hD hZ hJ
  have hA : ∀ q, s.heap.size ≤ q → A q := fun q h => by rw [← hAe]; exact Or.inr h
  have hS : va_S A s.heap s.heap [] := va_S.rf
  have hP : va_P D vwCl (V ++ []) s.heap := by rw [List.append_nil]; exact hP
  have hD : va_D A (V ++ []) := by rw [List.append_nil]; exact hD
  obtain ⟨fs, he⟩ := Ob_head hO
  refine W_q (R1 := (rmx 12 400 1 6)) rfl (fun Q0 hQ0 => ?_)
  refine W_entry hav (Nat.le_of_ble_eq_true rfl) (fun ls hl => ?_)
  have hl : lv_has ls 3 [(0, .ref at_), (1, .int p1)] := hl
  refine lv_aload_n hx hb dL_steps_0 rfl (lv_at hl 0 rfl) ?_
  refine lv_iload_n hx hb dL_steps_1 rfl (lv_at hl 1 rfl) ?_
  refine ow_V (As := [.int p1]) (rest := []) ⟨hx, hb, hml, hown, hts⟩ (o_steps l hst D y s.heap.size at_ V p1 hO) (cwV 1 hts gL_steps_X7_steps rfl rfl rfl (by decide +kernel) ⟨(Nat.le_of_ble_eq_true rfl), (Nat.le_of_ble_eq_true rfl)⟩) he hK hP hD hS hA hZ hN hJ rfl hl.1 rfl (Nat.le_of_ble_eq_true rfl) dL_steps_2 ⟨(Nat.le_of_ble_eq_true rfl), (Nat.le_of_ble_eq_true rfl)⟩ (fun hk V1 ce q9 H locs hO9 hP hD hS h1 h2 h3 => ?_) (fun hk r V1 H locs hO9 hP hD hS => ?_)
  · rcases (K_steps (Ob_GL hO) (p1 := p1)) with h | h
    · exact absurd h hk
    · have h3 : s.vm.findClass (exn 1) = some ce.cls := by rw [← h]; exact h3
      refine vx_catch (own := RL) (E := "java/lang/IllegalArgumentException") (name := "java/lang/IllegalArgumentException") hown [] ⟨0, 5, 6, 41⟩ [] (htab.trans rfl) (List.forall_mem_nil _) (by decide) (by decide) (hts (.classLink RL 41 "java/lang/IllegalArgumentException") (List.mem_of_getElem? (i := 1) rfl)) (va_Nw.use rfl (hZ.2.2.2 _ (by decide))) h1 h2 h3 ?_
      refine lv_astore_n (lv' := [(2, .ref q9), (0, .ref at_), (1, .int p1)]) hx hb dL_steps_6 rfl hl (by decide) rfl (fun ls hl => ?_)
      refine lv_sipush (v := -1001) hx hb dL_steps_7 (by decide) ?_
      rw [hQ0]
      exact oxret_i hx hb hr hlocks hAe hK hP hD hS (⟨by unfold lq_steps; rw [h]; rfl, hO9⟩) dL_steps_10
  · rw [hQ0]
    exact oxret_i hx hb hr hlocks hAe hK hP hD hS (⟨by unfold lq_steps; rw [if_pos hk]; exact hO9.1, hO9.2⟩) dL_steps_5
set_option maxHeartbeats 4000000 in
set_option maxRecDepth 100000 in
theorem oL_stepsAgain (l : Launch) (hst : l.stackTraces = false) (D : va_G) (y : Nat → ClassId) (sz at_ : Nat) {q : Lad} {us : List Lad} {sv : Option Lad} {rs dt ix lf : Int32} {M : Nat} {tx : Nat → Int32} {NN : Nat} {TT : Nat → Nat} (V : va_W) (p1 : Int32) (hO : Ob y at_ q us sv rs dt ix lf M tx NN TT V) : vx_Met l yL_stepsAgain wsL_stepsAgain (rmx 12 400 1 6) (zlP D y V sz [.ref at_, .int p1]) (oQi D y 0 (fun r V' => r = (lq_stepsAgain q p1) ∧ Ob y at_ q us sv rs dt ix lf M tx NN TT V') V sz) (oX D y 0 (fun _ => False) V sz) 1 6 (va_A V sz) := by
  refine vx_ofWH (cc := cL_stepsAgain) (maxL := 3) (ret := (some .int)) (hh := [(0, 5, 6, 41)]) (by decide) rfl ?_
  intro p e s m args below meth c s₁ B hml hv
  obtain ⟨hav, hsz, hP, hK, hD0, hZ, hN, hJ⟩ := hv
  have hx := B.exec
  have hb := B.bytes
  have hr := B.returns
  have hts := atoms_spec (ws := wsL_stepsAgain) B.pre
  have hown : s.vm.findClass RL = some m.cls := findClass_of_methodNamed B.named
  have hlocks := B.notSynchronized
  have htab := vx_table (x := yL_stepsAgain) B (hts _ List.mem_cons_self)
  subst hsz
  have hD := hD0.self (sz := s.heap.size)
  obtain ⟨A, hAe⟩ : ∃ A : Nat → Prop, va_A V s.heap.size = A := ⟨_, rfl⟩
  rw [hAe] at hD hZ hJ
  have hA : ∀ q, s.heap.size ≤ q → A q := fun q h => by rw [← hAe]; exact Or.inr h
  have hS : va_S A s.heap s.heap [] := va_S.rf
  have hP : va_P D vwCl (V ++ []) s.heap := by rw [List.append_nil]; exact hP
  have hD : va_D A (V ++ []) := by rw [List.append_nil]; exact hD
  obtain ⟨fs, he⟩ := Ob_head hO
  refine W_q (R1 := (rmx 12 400 1 6)) rfl (fun Q0 hQ0 => ?_)
  refine W_entry hav (Nat.le_of_ble_eq_true rfl) (fun ls hl => ?_)
  have hl : lv_has ls 3 [(0, .ref at_), (1, .int p1)] := hl
  refine lv_aload_n hx hb dL_stepsAgain_0 rfl (lv_at hl 0 rfl) ?_
  refine lv_iload_n hx hb dL_stepsAgain_1 rfl (lv_at hl 1 rfl) ?_
  refine ow_V (As := [.int p1]) (rest := []) ⟨hx, hb, hml, hown, hts⟩ (o_stepsAgain l hst D y s.heap.size at_ V p1 hO) (cwV 1 hts gL_stepsAgain_X7_stepsAgain rfl rfl rfl (by decide +kernel) ⟨(Nat.le_of_ble_eq_true rfl), (Nat.le_of_ble_eq_true rfl)⟩) he hK hP hD hS hA hZ hN hJ rfl hl.1 rfl (Nat.le_of_ble_eq_true rfl) dL_stepsAgain_2 ⟨(Nat.le_of_ble_eq_true rfl), (Nat.le_of_ble_eq_true rfl)⟩ (fun hk V1 ce q9 H locs hO9 hP hD hS h1 h2 h3 => ?_) (fun hk r V1 H locs hO9 hP hD hS => ?_)
  · rcases (K_stepsAgain (Ob_GL hO) (p1 := p1)) with h | h
    · exact absurd h hk
    · have h3 : s.vm.findClass (exn 1) = some ce.cls := by rw [← h]; exact h3
      refine vx_catch (own := RL) (E := "java/lang/IllegalArgumentException") (name := "java/lang/IllegalArgumentException") hown [] ⟨0, 5, 6, 41⟩ [] (htab.trans rfl) (List.forall_mem_nil _) (by decide) (by decide) (hts (.classLink RL 41 "java/lang/IllegalArgumentException") (List.mem_of_getElem? (i := 1) rfl)) (va_Nw.use rfl (hZ.2.2.2 _ (by decide))) h1 h2 h3 ?_
      refine lv_astore_n (lv' := [(2, .ref q9), (0, .ref at_), (1, .int p1)]) hx hb dL_stepsAgain_6 rfl hl (by decide) rfl (fun ls hl => ?_)
      refine lv_sipush (v := -1001) hx hb dL_stepsAgain_7 (by decide) ?_
      rw [hQ0]
      exact oxret_i hx hb hr hlocks hAe hK hP hD hS (⟨by unfold lq_stepsAgain; rw [h]; rfl, hO9⟩) dL_stepsAgain_10
  · rw [hQ0]
    exact oxret_i hx hb hr hlocks hAe hK hP hD hS (⟨by unfold lq_stepsAgain; rw [if_pos hk]; exact hO9.1, hO9.2⟩) dL_stepsAgain_5
set_option maxHeartbeats 4000000 in
set_option maxRecDepth 100000 in
theorem oL_placeOf (l : Launch) (hst : l.stackTraces = false) (D : va_G) (y : Nat → ClassId) (sz at_ : Nat) {q : Lad} {us : List Lad} {sv : Option Lad} {rs dt ix lf : Int32} {M : Nat} {tx : Nat → Int32} {NN : Nat} {TT : Nat → Nat} (V : va_W) (p1 : Int32) (p2 : Int32) (hO : Ob y at_ q us sv rs dt ix lf M tx NN TT V) : vx_Met l yL_placeOf wsL_placeOf (rmx 12 400 2 12) (zlP D y V sz [.ref at_, .int p1, .int p2]) (oQi D y 0 (fun r V' => r = (lq_placeOf q p1 p2) ∧ Ob y at_ q us sv rs dt ix lf M tx NN TT V') V sz) (oX D y 0 (fun _ => False) V sz) 2 12 (va_A V sz) := by
  refine vx_ofWH (cc := cL_placeOf) (maxL := 4) (ret := (some .int)) (hh := [(0, 6, 7, 41), (0, 6, 12, 43)]) (by decide) rfl ?_
  intro p e s m args below meth c s₁ B hml hv
  obtain ⟨hav, hsz, hP, hK, hD0, hZ, hN, hJ⟩ := hv
  have hx := B.exec
  have hb := B.bytes
  have hr := B.returns
  have hts := atoms_spec (ws := wsL_placeOf) B.pre
  have hown : s.vm.findClass RL = some m.cls := findClass_of_methodNamed B.named
  have hlocks := B.notSynchronized
  have htab := vx_table (x := yL_placeOf) B (hts _ List.mem_cons_self)
  subst hsz
  have hD := hD0.self (sz := s.heap.size)
  obtain ⟨A, hAe⟩ : ∃ A : Nat → Prop, va_A V s.heap.size = A := ⟨_, rfl⟩
  rw [hAe] at hD hZ hJ
  have hA : ∀ q, s.heap.size ≤ q → A q := fun q h => by rw [← hAe]; exact Or.inr h
  have hS : va_S A s.heap s.heap [] := va_S.rf
  have hP : va_P D vwCl (V ++ []) s.heap := by rw [List.append_nil]; exact hP
  have hD : va_D A (V ++ []) := by rw [List.append_nil]; exact hD
  obtain ⟨fs, he⟩ := Ob_head hO
  refine W_q (R1 := (rmx 12 400 2 12)) rfl (fun Q0 hQ0 => ?_)
  refine W_entry hav (Nat.le_of_ble_eq_true rfl) (fun ls hl => ?_)
  have hl : lv_has ls 4 [(0, .ref at_), (1, .int p1), (2, .int p2)] := hl
  refine lv_aload_n hx hb dL_placeOf_0 rfl (lv_at hl 0 rfl) ?_
  refine lv_iload_n hx hb dL_placeOf_1 rfl (lv_at hl 1 rfl) ?_
  refine lv_iload_n hx hb dL_placeOf_2 rfl (lv_at hl 2 rfl) ?_
  refine ow_V (As := [.int p1, .int p2]) (rest := []) ⟨hx, hb, hml, hown, hts⟩ (o_placeOf l hst D y s.heap.size at_ V p1 p2 hO) (cwV 2 hts gL_placeOf_X7_placeOf rfl rfl rfl (by decide +kernel) ⟨(Nat.le_of_ble_eq_true rfl), (Nat.le_of_ble_eq_true rfl)⟩) he hK hP hD hS hA hZ hN hJ rfl hl.1 rfl (Nat.le_of_ble_eq_true rfl) dL_placeOf_3 ⟨(Nat.le_of_ble_eq_true rfl), (Nat.le_of_ble_eq_true rfl)⟩ (fun hk V1 ce q9 H locs hO9 hP hD hS h1 h2 h3 => ?_) (fun hk r V1 H locs hO9 hP hD hS => ?_)
  · rcases (K_placeOf (Ob_GL hO) (p1 := p1) (p2 := p2)) with h | h | h
    · exact absurd h hk
    · have h3 : s.vm.findClass (exn 1) = some ce.cls := by rw [← h]; exact h3
      refine vx_catch (own := RL) (E := "java/lang/IllegalArgumentException") (name := "java/lang/IllegalArgumentException") hown [] ⟨0, 6, 7, 41⟩ [⟨0, 6, 12, 43⟩] (htab.trans rfl) (List.forall_mem_nil _) (by decide) (by decide) (hts (.classLink RL 41 "java/lang/IllegalArgumentException") (List.mem_of_getElem? (i := 1) rfl)) (va_Nw.use rfl (hZ.2.2.2 _ (by decide))) h1 h2 h3 ?_
      refine lv_astore_n (lv' := [(3, .ref q9), (0, .ref at_), (1, .int p1), (2, .int p2)]) hx hb dL_placeOf_7 rfl hl (by decide) rfl (fun ls hl => ?_)
      refine lv_sipush (v := -1001) hx hb dL_placeOf_8 (by decide) ?_
      rw [hQ0]
      exact oxret_i hx hb hr hlocks hAe hK hP hD hS (⟨by unfold lq_placeOf; rw [h]; rfl, hO9⟩) dL_placeOf_11
    · have h3 : s.vm.findClass (exn 2) = some ce.cls := by rw [← h]; exact h3
      refine vx_catch (own := RL) (E := "java/util/NoSuchElementException") (name := "java/util/NoSuchElementException") hown [⟨0, 6, 7, 41⟩] ⟨0, 6, 12, 43⟩ [] (htab.trans rfl) (List.forall_mem_cons.mpr ⟨Or.inr ⟨by decide, "java/lang/IllegalArgumentException", (hts (.classLink RL 41 "java/lang/IllegalArgumentException") (List.mem_of_getElem? (i := 1) rfl)), hN _ (show ("java/util/NoSuchElementException", "java/lang/IllegalArgumentException") ∈ ncs by decide)⟩, List.forall_mem_nil _⟩) (by decide) (by decide) (hts (.classLink RL 43 "java/util/NoSuchElementException") (List.mem_of_getElem? (i := 2) rfl)) (va_Nw.use rfl (hZ.2.2.2 _ (by decide))) h1 h2 h3 ?_
      refine lv_astore_n (lv' := [(3, .ref q9), (0, .ref at_), (1, .int p1), (2, .int p2)]) hx hb dL_placeOf_12 rfl hl (by decide) rfl (fun ls hl => ?_)
      refine lv_sipush (v := -1002) hx hb dL_placeOf_13 (by decide) ?_
      rw [hQ0]
      exact oxret_i hx hb hr hlocks hAe hK hP hD hS (⟨by unfold lq_placeOf; rw [h]; rfl, hO9⟩) dL_placeOf_16
  · rw [hQ0]
    exact oxret_i hx hb hr hlocks hAe hK hP hD hS (⟨by unfold lq_placeOf; rw [if_pos hk]; exact hO9.1, hO9.2⟩) dL_placeOf_6
set_option maxHeartbeats 4000000 in
set_option maxRecDepth 100000 in
theorem oL_falls (l : Launch) (hst : l.stackTraces = false) (D : va_G) (y : Nat → ClassId) (sz at_ : Nat) {q : Lad} {us : List Lad} {sv : Option Lad} {rs dt ix lf : Int32} {M : Nat} {tx : Nat → Int32} {NN : Nat} {TT : Nat → Nat} (V : va_W) (p1 : Int32) (hO : Ob y at_ q us sv rs dt ix lf M tx NN TT V) : vx_Met l yL_falls wsL_falls (rmx 12 400 1 6) (zlP D y V sz [.ref at_, .int p1]) (oQi D y 0 (fun r V' => r = (lq_falls q p1) ∧ Ob y at_ q us sv rs dt ix lf M tx NN TT V') V sz) (oX D y 0 (fun _ => False) V sz) 1 6 (va_A V sz) := by
  refine vx_ofWH (cc := cL_falls) (maxL := 3) (ret := (some .int)) (hh := [(0, 5, 6, 41)]) (by decide) rfl ?_
  intro p e s m args below meth c s₁ B hml hv
  obtain ⟨hav, hsz, hP, hK, hD0, hZ, hN, hJ⟩ := hv
  have hx := B.exec
  have hb := B.bytes
  have hr := B.returns
  have hts := atoms_spec (ws := wsL_falls) B.pre
  have hown : s.vm.findClass RL = some m.cls := findClass_of_methodNamed B.named
  have hlocks := B.notSynchronized
  have htab := vx_table (x := yL_falls) B (hts _ List.mem_cons_self)
  subst hsz
  have hD := hD0.self (sz := s.heap.size)
  obtain ⟨A, hAe⟩ : ∃ A : Nat → Prop, va_A V s.heap.size = A := ⟨_, rfl⟩
  rw [hAe] at hD hZ hJ
  have hA : ∀ q, s.heap.size ≤ q → A q := fun q h => by rw [← hAe]; exact Or.inr h
  have hS : va_S A s.heap s.heap [] := va_S.rf
  have hP : va_P D vwCl (V ++ []) s.heap := by rw [List.append_nil]; exact hP
  have hD : va_D A (V ++ []) := by rw [List.append_nil]; exact hD
  obtain ⟨fs, he⟩ := Ob_head hO
  refine W_q (R1 := (rmx 12 400 1 6)) rfl (fun Q0 hQ0 => ?_)
  refine W_entry hav (Nat.le_of_ble_eq_true rfl) (fun ls hl => ?_)
  have hl : lv_has ls 3 [(0, .ref at_), (1, .int p1)] := hl
  refine lv_aload_n hx hb dL_falls_0 rfl (lv_at hl 0 rfl) ?_
  refine lv_iload_n hx hb dL_falls_1 rfl (lv_at hl 1 rfl) ?_
  refine ow_V (As := [.int p1]) (rest := []) ⟨hx, hb, hml, hown, hts⟩ (o_falls l hst D y s.heap.size at_ V p1 hO) (cwV 1 hts gL_falls_X7_falls rfl rfl rfl (by decide +kernel) ⟨(Nat.le_of_ble_eq_true rfl), (Nat.le_of_ble_eq_true rfl)⟩) he hK hP hD hS hA hZ hN hJ rfl hl.1 rfl (Nat.le_of_ble_eq_true rfl) dL_falls_2 ⟨(Nat.le_of_ble_eq_true rfl), (Nat.le_of_ble_eq_true rfl)⟩ (fun hk V1 ce q9 H locs hO9 hP hD hS h1 h2 h3 => ?_) (fun hk r V1 H locs hO9 hP hD hS => ?_)
  · rcases (K_falls (Ob_GL hO) (p1 := p1)) with h | h
    · exact absurd h hk
    · have h3 : s.vm.findClass (exn 1) = some ce.cls := by rw [← h]; exact h3
      refine vx_catch (own := RL) (E := "java/lang/IllegalArgumentException") (name := "java/lang/IllegalArgumentException") hown [] ⟨0, 5, 6, 41⟩ [] (htab.trans rfl) (List.forall_mem_nil _) (by decide) (by decide) (hts (.classLink RL 41 "java/lang/IllegalArgumentException") (List.mem_of_getElem? (i := 1) rfl)) (va_Nw.use rfl (hZ.2.2.2 _ (by decide))) h1 h2 h3 ?_
      refine lv_astore_n (lv' := [(2, .ref q9), (0, .ref at_), (1, .int p1)]) hx hb dL_falls_6 rfl hl (by decide) rfl (fun ls hl => ?_)
      refine lv_sipush (v := -1001) hx hb dL_falls_7 (by decide) ?_
      rw [hQ0]
      exact oxret_i hx hb hr hlocks hAe hK hP hD hS (⟨by unfold lq_falls; rw [h]; rfl, hO9⟩) dL_falls_10
  · rw [hQ0]
    exact oxret_i hx hb hr hlocks hAe hK hP hD hS (⟨by unfold lq_falls; rw [if_pos hk]; exact hO9.1, hO9.2⟩) dL_falls_5
set_option maxHeartbeats 4000000 in
set_option maxRecDepth 100000 in
theorem oL_floor (l : Launch) (hst : l.stackTraces = false) (D : va_G) (y : Nat → ClassId) (sz at_ : Nat) {q : Lad} {us : List Lad} {sv : Option Lad} {rs dt ix lf : Int32} {M : Nat} {tx : Nat → Int32} {NN : Nat} {TT : Nat → Nat} (V : va_W) (p1 : Int32) (hO : Ob y at_ q us sv rs dt ix lf M tx NN TT V) : vx_Met l yL_floor wsL_floor (rmx 12 400 2 12) (zlP D y V sz [.ref at_, .int p1]) (oQi D y 0 (fun r V' => r = (lq_floor q p1) ∧ Ob y at_ q us sv rs dt ix lf M tx NN TT V') V sz) (oX D y 0 (fun _ => False) V sz) 2 12 (va_A V sz) := by
  refine vx_ofWH (cc := cL_floor) (maxL := 3) (ret := (some .int)) (hh := [(0, 5, 6, 41), (0, 5, 11, 43)]) (by decide) rfl ?_
  intro p e s m args below meth c s₁ B hml hv
  obtain ⟨hav, hsz, hP, hK, hD0, hZ, hN, hJ⟩ := hv
  have hx := B.exec
  have hb := B.bytes
  have hr := B.returns
  have hts := atoms_spec (ws := wsL_floor) B.pre
  have hown : s.vm.findClass RL = some m.cls := findClass_of_methodNamed B.named
  have hlocks := B.notSynchronized
  have htab := vx_table (x := yL_floor) B (hts _ List.mem_cons_self)
  subst hsz
  have hD := hD0.self (sz := s.heap.size)
  obtain ⟨A, hAe⟩ : ∃ A : Nat → Prop, va_A V s.heap.size = A := ⟨_, rfl⟩
  rw [hAe] at hD hZ hJ
  have hA : ∀ q, s.heap.size ≤ q → A q := fun q h => by rw [← hAe]; exact Or.inr h
  have hS : va_S A s.heap s.heap [] := va_S.rf
  have hP : va_P D vwCl (V ++ []) s.heap := by rw [List.append_nil]; exact hP
  have hD : va_D A (V ++ []) := by rw [List.append_nil]; exact hD
  obtain ⟨fs, he⟩ := Ob_head hO
  refine W_q (R1 := (rmx 12 400 2 12)) rfl (fun Q0 hQ0 => ?_)
  refine W_entry hav (Nat.le_of_ble_eq_true rfl) (fun ls hl => ?_)
  have hl : lv_has ls 3 [(0, .ref at_), (1, .int p1)] := hl
  refine lv_aload_n hx hb dL_floor_0 rfl (lv_at hl 0 rfl) ?_
  refine lv_iload_n hx hb dL_floor_1 rfl (lv_at hl 1 rfl) ?_
  refine ow_V (As := [.int p1]) (rest := []) ⟨hx, hb, hml, hown, hts⟩ (o_floor l hst D y s.heap.size at_ V p1 hO) (cwV 1 hts gL_floor_X7_floor rfl rfl rfl (by decide +kernel) ⟨(Nat.le_of_ble_eq_true rfl), (Nat.le_of_ble_eq_true rfl)⟩) he hK hP hD hS hA hZ hN hJ rfl hl.1 rfl (Nat.le_of_ble_eq_true rfl) dL_floor_2 ⟨(Nat.le_of_ble_eq_true rfl), (Nat.le_of_ble_eq_true rfl)⟩ (fun hk V1 ce q9 H locs hO9 hP hD hS h1 h2 h3 => ?_) (fun hk r V1 H locs hO9 hP hD hS => ?_)
  · rcases (K_floor (Ob_GL hO) (p1 := p1)) with h | h | h
    · exact absurd h hk
    · have h3 : s.vm.findClass (exn 1) = some ce.cls := by rw [← h]; exact h3
      refine vx_catch (own := RL) (E := "java/lang/IllegalArgumentException") (name := "java/lang/IllegalArgumentException") hown [] ⟨0, 5, 6, 41⟩ [⟨0, 5, 11, 43⟩] (htab.trans rfl) (List.forall_mem_nil _) (by decide) (by decide) (hts (.classLink RL 41 "java/lang/IllegalArgumentException") (List.mem_of_getElem? (i := 1) rfl)) (va_Nw.use rfl (hZ.2.2.2 _ (by decide))) h1 h2 h3 ?_
      refine lv_astore_n (lv' := [(2, .ref q9), (0, .ref at_), (1, .int p1)]) hx hb dL_floor_6 rfl hl (by decide) rfl (fun ls hl => ?_)
      refine lv_sipush (v := -1001) hx hb dL_floor_7 (by decide) ?_
      rw [hQ0]
      exact oxret_i hx hb hr hlocks hAe hK hP hD hS (⟨by unfold lq_floor; rw [h]; rfl, hO9⟩) dL_floor_10
    · have h3 : s.vm.findClass (exn 2) = some ce.cls := by rw [← h]; exact h3
      refine vx_catch (own := RL) (E := "java/util/NoSuchElementException") (name := "java/util/NoSuchElementException") hown [⟨0, 5, 6, 41⟩] ⟨0, 5, 11, 43⟩ [] (htab.trans rfl) (List.forall_mem_cons.mpr ⟨Or.inr ⟨by decide, "java/lang/IllegalArgumentException", (hts (.classLink RL 41 "java/lang/IllegalArgumentException") (List.mem_of_getElem? (i := 1) rfl)), hN _ (show ("java/util/NoSuchElementException", "java/lang/IllegalArgumentException") ∈ ncs by decide)⟩, List.forall_mem_nil _⟩) (by decide) (by decide) (hts (.classLink RL 43 "java/util/NoSuchElementException") (List.mem_of_getElem? (i := 2) rfl)) (va_Nw.use rfl (hZ.2.2.2 _ (by decide))) h1 h2 h3 ?_
      refine lv_astore_n (lv' := [(2, .ref q9), (0, .ref at_), (1, .int p1)]) hx hb dL_floor_11 rfl hl (by decide) rfl (fun ls hl => ?_)
      refine lv_sipush (v := -1002) hx hb dL_floor_12 (by decide) ?_
      rw [hQ0]
      exact oxret_i hx hb hr hlocks hAe hK hP hD hS (⟨by unfold lq_floor; rw [h]; rfl, hO9⟩) dL_floor_15
  · rw [hQ0]
    exact oxret_i hx hb hr hlocks hAe hK hP hD hS (⟨by unfold lq_floor; rw [if_pos hk]; exact hO9.1, hO9.2⟩) dL_floor_5
set_option maxHeartbeats 4000000 in
set_option maxRecDepth 100000 in
theorem oL_ceiling (l : Launch) (hst : l.stackTraces = false) (D : va_G) (y : Nat → ClassId) (sz at_ : Nat) {q : Lad} {us : List Lad} {sv : Option Lad} {rs dt ix lf : Int32} {M : Nat} {tx : Nat → Int32} {NN : Nat} {TT : Nat → Nat} (V : va_W) (p1 : Int32) (hO : Ob y at_ q us sv rs dt ix lf M tx NN TT V) : vx_Met l yL_ceiling wsL_ceiling (rmx 12 400 2 12) (zlP D y V sz [.ref at_, .int p1]) (oQi D y 0 (fun r V' => r = (lq_ceiling q p1) ∧ Ob y at_ q us sv rs dt ix lf M tx NN TT V') V sz) (oX D y 0 (fun _ => False) V sz) 2 12 (va_A V sz) := by
  refine vx_ofWH (cc := cL_ceiling) (maxL := 3) (ret := (some .int)) (hh := [(0, 5, 6, 41), (0, 5, 11, 43)]) (by decide) rfl ?_
  intro p e s m args below meth c s₁ B hml hv
  obtain ⟨hav, hsz, hP, hK, hD0, hZ, hN, hJ⟩ := hv
  have hx := B.exec
  have hb := B.bytes
  have hr := B.returns
  have hts := atoms_spec (ws := wsL_ceiling) B.pre
  have hown : s.vm.findClass RL = some m.cls := findClass_of_methodNamed B.named
  have hlocks := B.notSynchronized
  have htab := vx_table (x := yL_ceiling) B (hts _ List.mem_cons_self)
  subst hsz
  have hD := hD0.self (sz := s.heap.size)
  obtain ⟨A, hAe⟩ : ∃ A : Nat → Prop, va_A V s.heap.size = A := ⟨_, rfl⟩
  rw [hAe] at hD hZ hJ
  have hA : ∀ q, s.heap.size ≤ q → A q := fun q h => by rw [← hAe]; exact Or.inr h
  have hS : va_S A s.heap s.heap [] := va_S.rf
  have hP : va_P D vwCl (V ++ []) s.heap := by rw [List.append_nil]; exact hP
  have hD : va_D A (V ++ []) := by rw [List.append_nil]; exact hD
  obtain ⟨fs, he⟩ := Ob_head hO
  refine W_q (R1 := (rmx 12 400 2 12)) rfl (fun Q0 hQ0 => ?_)
  refine W_entry hav (Nat.le_of_ble_eq_true rfl) (fun ls hl => ?_)
  have hl : lv_has ls 3 [(0, .ref at_), (1, .int p1)] := hl
  refine lv_aload_n hx hb dL_ceiling_0 rfl (lv_at hl 0 rfl) ?_
  refine lv_iload_n hx hb dL_ceiling_1 rfl (lv_at hl 1 rfl) ?_
  refine ow_V (As := [.int p1]) (rest := []) ⟨hx, hb, hml, hown, hts⟩ (o_ceiling l hst D y s.heap.size at_ V p1 hO) (cwV 1 hts gL_ceiling_X7_ceiling rfl rfl rfl (by decide +kernel) ⟨(Nat.le_of_ble_eq_true rfl), (Nat.le_of_ble_eq_true rfl)⟩) he hK hP hD hS hA hZ hN hJ rfl hl.1 rfl (Nat.le_of_ble_eq_true rfl) dL_ceiling_2 ⟨(Nat.le_of_ble_eq_true rfl), (Nat.le_of_ble_eq_true rfl)⟩ (fun hk V1 ce q9 H locs hO9 hP hD hS h1 h2 h3 => ?_) (fun hk r V1 H locs hO9 hP hD hS => ?_)
  · rcases (K_ceiling (Ob_GL hO) (p1 := p1)) with h | h | h
    · exact absurd h hk
    · have h3 : s.vm.findClass (exn 1) = some ce.cls := by rw [← h]; exact h3
      refine vx_catch (own := RL) (E := "java/lang/IllegalArgumentException") (name := "java/lang/IllegalArgumentException") hown [] ⟨0, 5, 6, 41⟩ [⟨0, 5, 11, 43⟩] (htab.trans rfl) (List.forall_mem_nil _) (by decide) (by decide) (hts (.classLink RL 41 "java/lang/IllegalArgumentException") (List.mem_of_getElem? (i := 1) rfl)) (va_Nw.use rfl (hZ.2.2.2 _ (by decide))) h1 h2 h3 ?_
      refine lv_astore_n (lv' := [(2, .ref q9), (0, .ref at_), (1, .int p1)]) hx hb dL_ceiling_6 rfl hl (by decide) rfl (fun ls hl => ?_)
      refine lv_sipush (v := -1001) hx hb dL_ceiling_7 (by decide) ?_
      rw [hQ0]
      exact oxret_i hx hb hr hlocks hAe hK hP hD hS (⟨by unfold lq_ceiling; rw [h]; rfl, hO9⟩) dL_ceiling_10
    · have h3 : s.vm.findClass (exn 2) = some ce.cls := by rw [← h]; exact h3
      refine vx_catch (own := RL) (E := "java/util/NoSuchElementException") (name := "java/util/NoSuchElementException") hown [⟨0, 5, 6, 41⟩] ⟨0, 5, 11, 43⟩ [] (htab.trans rfl) (List.forall_mem_cons.mpr ⟨Or.inr ⟨by decide, "java/lang/IllegalArgumentException", (hts (.classLink RL 41 "java/lang/IllegalArgumentException") (List.mem_of_getElem? (i := 1) rfl)), hN _ (show ("java/util/NoSuchElementException", "java/lang/IllegalArgumentException") ∈ ncs by decide)⟩, List.forall_mem_nil _⟩) (by decide) (by decide) (hts (.classLink RL 43 "java/util/NoSuchElementException") (List.mem_of_getElem? (i := 2) rfl)) (va_Nw.use rfl (hZ.2.2.2 _ (by decide))) h1 h2 h3 ?_
      refine lv_astore_n (lv' := [(2, .ref q9), (0, .ref at_), (1, .int p1)]) hx hb dL_ceiling_11 rfl hl (by decide) rfl (fun ls hl => ?_)
      refine lv_sipush (v := -1002) hx hb dL_ceiling_12 (by decide) ?_
      rw [hQ0]
      exact oxret_i hx hb hr hlocks hAe hK hP hD hS (⟨by unfold lq_ceiling; rw [h]; rfl, hO9⟩) dL_ceiling_15
  · rw [hQ0]
    exact oxret_i hx hb hr hlocks hAe hK hP hD hS (⟨by unfold lq_ceiling; rw [if_pos hk]; exact hO9.1, hO9.2⟩) dL_ceiling_5
set_option maxHeartbeats 4000000 in
set_option maxRecDepth 100000 in
theorem oL_count (l : Launch) (hst : l.stackTraces = false) (D : va_G) (y : Nat → ClassId) (sz at_ : Nat) {q : Lad} {us : List Lad} {sv : Option Lad} {rs dt ix lf : Int32} {M : Nat} {tx : Nat → Int32} {NN : Nat} {TT : Nat → Nat} (V : va_W) (p1 : Int32) (p2 : Int32) (hO : Ob y at_ q us sv rs dt ix lf M tx NN TT V) : vx_Met l yL_count wsL_count (rmx 12 400 3 18) (zlP D y V sz [.ref at_, .int p1, .int p2]) (oQi D y 0 (fun r V' => r = (lq_count q p1 p2) ∧ Ob y at_ q us sv rs dt ix lf M tx NN TT V') V sz) (oX D y 0 (fun _ => False) V sz) 3 18 (va_A V sz) := by
  refine vx_ofWH (cc := cL_count) (maxL := 4) (ret := (some .int)) (hh := [(0, 6, 7, 41)]) (by decide) rfl ?_
  intro p e s m args below meth c s₁ B hml hv
  obtain ⟨hav, hsz, hP, hK, hD0, hZ, hN, hJ⟩ := hv
  have hx := B.exec
  have hb := B.bytes
  have hr := B.returns
  have hts := atoms_spec (ws := wsL_count) B.pre
  have hown : s.vm.findClass RL = some m.cls := findClass_of_methodNamed B.named
  have hlocks := B.notSynchronized
  have htab := vx_table (x := yL_count) B (hts _ List.mem_cons_self)
  subst hsz
  have hD := hD0.self (sz := s.heap.size)
  obtain ⟨A, hAe⟩ : ∃ A : Nat → Prop, va_A V s.heap.size = A := ⟨_, rfl⟩
  rw [hAe] at hD hZ hJ
  have hA : ∀ q, s.heap.size ≤ q → A q := fun q h => by rw [← hAe]; exact Or.inr h
  have hS : va_S A s.heap s.heap [] := va_S.rf
  have hP : va_P D vwCl (V ++ []) s.heap := by rw [List.append_nil]; exact hP
  have hD : va_D A (V ++ []) := by rw [List.append_nil]; exact hD
  obtain ⟨fs, he⟩ := Ob_head hO
  refine W_q (R1 := (rmx 12 400 3 18)) rfl (fun Q0 hQ0 => ?_)
  refine W_entry hav (Nat.le_of_ble_eq_true rfl) (fun ls hl => ?_)
  have hl : lv_has ls 4 [(0, .ref at_), (1, .int p1), (2, .int p2)] := hl
  refine lv_aload_n hx hb dL_count_0 rfl (lv_at hl 0 rfl) ?_
  refine lv_iload_n hx hb dL_count_1 rfl (lv_at hl 1 rfl) ?_
  refine lv_iload_n hx hb dL_count_2 rfl (lv_at hl 2 rfl) ?_
  refine ow_V (As := [.int p1, .int p2]) (rest := []) ⟨hx, hb, hml, hown, hts⟩ (o_count l hst D y s.heap.size at_ V p1 p2 hO) (cwV 2 hts gL_count_X7_count rfl rfl rfl (by decide +kernel) ⟨(Nat.le_of_ble_eq_true rfl), (Nat.le_of_ble_eq_true rfl)⟩) he hK hP hD hS hA hZ hN hJ rfl hl.1 rfl (Nat.le_of_ble_eq_true rfl) dL_count_3 ⟨(Nat.le_of_ble_eq_true rfl), (Nat.le_of_ble_eq_true rfl)⟩ (fun hk V1 ce q9 H locs hO9 hP hD hS h1 h2 h3 => ?_) (fun hk r V1 H locs hO9 hP hD hS => ?_)
  · rcases (K_count (Ob_GL hO) (p1 := p1) (p2 := p2)) with h | h
    · exact absurd h hk
    · have h3 : s.vm.findClass (exn 1) = some ce.cls := by rw [← h]; exact h3
      refine vx_catch (own := RL) (E := "java/lang/IllegalArgumentException") (name := "java/lang/IllegalArgumentException") hown [] ⟨0, 6, 7, 41⟩ [] (htab.trans rfl) (List.forall_mem_nil _) (by decide) (by decide) (hts (.classLink RL 41 "java/lang/IllegalArgumentException") (List.mem_of_getElem? (i := 1) rfl)) (va_Nw.use rfl (hZ.2.2.2 _ (by decide))) h1 h2 h3 ?_
      refine lv_astore_n (lv' := [(3, .ref q9), (0, .ref at_), (1, .int p1), (2, .int p2)]) hx hb dL_count_7 rfl hl (by decide) rfl (fun ls hl => ?_)
      refine lv_sipush (v := -1001) hx hb dL_count_8 (by decide) ?_
      rw [hQ0]
      exact oxret_i hx hb hr hlocks hAe hK hP hD hS (⟨by unfold lq_count; rw [h]; rfl, hO9⟩) dL_count_11
  · rw [hQ0]
    exact oxret_i hx hb hr hlocks hAe hK hP hD hS (⟨by unfold lq_count; rw [if_pos hk]; exact hO9.1, hO9.2⟩) dL_count_6
set_option maxHeartbeats 4000000 in
set_option maxRecDepth 100000 in
theorem oL_countAgain (l : Launch) (hst : l.stackTraces = false) (D : va_G) (y : Nat → ClassId) (sz at_ : Nat) {q : Lad} {us : List Lad} {sv : Option Lad} {rs dt ix lf : Int32} {M : Nat} {tx : Nat → Int32} {NN : Nat} {TT : Nat → Nat} (V : va_W) (p1 : Int32) (p2 : Int32) (hO : Ob y at_ q us sv rs dt ix lf M tx NN TT V) : vx_Met l yL_countAgain wsL_countAgain (rmx 12 400 3 18) (zlP D y V sz [.ref at_, .int p1, .int p2]) (oQi D y 0 (fun r V' => r = (lq_countAgain q p1 p2) ∧ Ob y at_ q us sv rs dt ix lf M tx NN TT V') V sz) (oX D y 0 (fun _ => False) V sz) 3 18 (va_A V sz) := by
  refine vx_ofWH (cc := cL_countAgain) (maxL := 4) (ret := (some .int)) (hh := [(0, 6, 7, 41)]) (by decide) rfl ?_
  intro p e s m args below meth c s₁ B hml hv
  obtain ⟨hav, hsz, hP, hK, hD0, hZ, hN, hJ⟩ := hv
  have hx := B.exec
  have hb := B.bytes
  have hr := B.returns
  have hts := atoms_spec (ws := wsL_countAgain) B.pre
  have hown : s.vm.findClass RL = some m.cls := findClass_of_methodNamed B.named
  have hlocks := B.notSynchronized
  have htab := vx_table (x := yL_countAgain) B (hts _ List.mem_cons_self)
  subst hsz
  have hD := hD0.self (sz := s.heap.size)
  obtain ⟨A, hAe⟩ : ∃ A : Nat → Prop, va_A V s.heap.size = A := ⟨_, rfl⟩
  rw [hAe] at hD hZ hJ
  have hA : ∀ q, s.heap.size ≤ q → A q := fun q h => by rw [← hAe]; exact Or.inr h
  have hS : va_S A s.heap s.heap [] := va_S.rf
  have hP : va_P D vwCl (V ++ []) s.heap := by rw [List.append_nil]; exact hP
  have hD : va_D A (V ++ []) := by rw [List.append_nil]; exact hD
  obtain ⟨fs, he⟩ := Ob_head hO
  refine W_q (R1 := (rmx 12 400 3 18)) rfl (fun Q0 hQ0 => ?_)
  refine W_entry hav (Nat.le_of_ble_eq_true rfl) (fun ls hl => ?_)
  have hl : lv_has ls 4 [(0, .ref at_), (1, .int p1), (2, .int p2)] := hl
  refine lv_aload_n hx hb dL_countAgain_0 rfl (lv_at hl 0 rfl) ?_
  refine lv_iload_n hx hb dL_countAgain_1 rfl (lv_at hl 1 rfl) ?_
  refine lv_iload_n hx hb dL_countAgain_2 rfl (lv_at hl 2 rfl) ?_
  refine ow_V (As := [.int p1, .int p2]) (rest := []) ⟨hx, hb, hml, hown, hts⟩ (o_countAgain l hst D y s.heap.size at_ V p1 p2 hO) (cwV 2 hts gL_countAgain_X7_countAgain rfl rfl rfl (by decide +kernel) ⟨(Nat.le_of_ble_eq_true rfl), (Nat.le_of_ble_eq_true rfl)⟩) he hK hP hD hS hA hZ hN hJ rfl hl.1 rfl (Nat.le_of_ble_eq_true rfl) dL_countAgain_3 ⟨(Nat.le_of_ble_eq_true rfl), (Nat.le_of_ble_eq_true rfl)⟩ (fun hk V1 ce q9 H locs hO9 hP hD hS h1 h2 h3 => ?_) (fun hk r V1 H locs hO9 hP hD hS => ?_)
  · rcases (K_countAgain (Ob_GL hO) (p1 := p1) (p2 := p2)) with h | h
    · exact absurd h hk
    · have h3 : s.vm.findClass (exn 1) = some ce.cls := by rw [← h]; exact h3
      refine vx_catch (own := RL) (E := "java/lang/IllegalArgumentException") (name := "java/lang/IllegalArgumentException") hown [] ⟨0, 6, 7, 41⟩ [] (htab.trans rfl) (List.forall_mem_nil _) (by decide) (by decide) (hts (.classLink RL 41 "java/lang/IllegalArgumentException") (List.mem_of_getElem? (i := 1) rfl)) (va_Nw.use rfl (hZ.2.2.2 _ (by decide))) h1 h2 h3 ?_
      refine lv_astore_n (lv' := [(3, .ref q9), (0, .ref at_), (1, .int p1), (2, .int p2)]) hx hb dL_countAgain_7 rfl hl (by decide) rfl (fun ls hl => ?_)
      refine lv_sipush (v := -1001) hx hb dL_countAgain_8 (by decide) ?_
      rw [hQ0]
      exact oxret_i hx hb hr hlocks hAe hK hP hD hS (⟨by unfold lq_countAgain; rw [h]; rfl, hO9⟩) dL_countAgain_11
  · rw [hQ0]
    exact oxret_i hx hb hr hlocks hAe hK hP hD hS (⟨by unfold lq_countAgain; rw [if_pos hk]; exact hO9.1, hO9.2⟩) dL_countAgain_6
