def F_X8_thrown (fl : Nat) (t_thrown : Int32) : Option (Int32) := some t_thrown
theorem iX8_thrown_X8 : ∀ w ∈ u_ws RX8 TX8 22, w ∈ wsX8_thrown := fun w h => List.mem_cons_of_mem _ (List.mem_append_right _ h)
set_option maxHeartbeats 4000000 in
set_option maxRecDepth 100000 in
theorem c_X8_thrown (l : Launch) (D : va_G) (y : Nat → ClassId) (fl : Nat) (a_t : Nat) (a_t_now : Nat) (a_t_tried : Nat) (a_t_kept : Nat) (a_t_saved : Nat) (a_t_line : Nat) (a_t_text : Nat) (a_t_told : Nat) (a_t_way : Nat) (t_undos : Int32) (t_isSaved : Int32) (t_lined : Int32) (t_length : Int32) (t_at : Int32) (t_order : Int32) (t_fault : Int32) (t_reason : Int32) (t_detail : Int32) (t_index : Int32) (t_answer : Int32) (t_thrown : Int32) (t_went : Int32) (t_fell : Int32) (r : Int32) (hF : F_X8_thrown fl t_thrown = some r) : Met l yX8_thrown wsX8_thrown (rmq 0 0) (rdP D y [(a_t, .inr (12, [.ref a_t_now, .ref a_t_tried, .ref a_t_kept, .int t_undos, .ref a_t_saved, .int t_isSaved, .ref a_t_line, .int t_lined, .ref a_t_text, .int t_length, .int t_at, .int t_order, .ref a_t_told, .int t_fault, .int t_reason, .int t_detail, .int t_index, .int t_answer, .int t_thrown, .ref a_t_way, .int t_went, .int t_fell]))] [.ref a_t]) (QcRead r) 0 0 (fun _ => False) := by
  refine Met.ofW (cc := cX8_thrown) (maxL := 1) (ret := (some .int)) (by decide) rfl ?_
  intro p e s m args below meth c s₁ B hml hv
  obtain ⟨hav, hP, hK⟩ := hv
  have hx := B.exec
  have hb := B.bytes
  have hr := B.returns
  have hts := atoms_spec (ws := wsX8_thrown) B.pre
  have hown : s.vm.findClass RX8 = some m.cls := findClass_of_methodNamed B.named
  have hlocks := B.notSynchronized
  refine W_q (R1 := (rmq 0 0)) rfl (fun Q0 hQ0 => ?_)
  unfold F_X8_thrown at hF
  refine W_entry hav (Nat.le_of_ble_eq_true rfl) (fun ls hl => ?_)
  have hl : lv_has ls 1 [(0, .ref a_t)] := hl
  refine lv_aload_n hx hb dX8_thrown_0 rfl (lv_at hl 0 rfl) ?_
  refine va_get (D := D) (ci := 12) (v := .int t_thrown) (C := RX8) (T := TX8) (N := 22) hx hb hts iX8_thrown_X8 hown hK hP 0 rfl rfl 18 (by decide) (hts (.fieldLink RX8 39 "SkipArchiveModel" "thrown" "I") (List.mem_of_getElem? (i := 1) rfl)) (fun _ h9 => h9) rfl dX8_thrown_1 ?_
  obtain e0_4 := inj1 hF
  rw [← e0_4] at hQ0
  rw [hQ0]
  exact W.iret (v := t_thrown) hx hb hr (fun t ht hW => ⟨rfl, ht⟩) (fun _ h => nomatch h) dX8_thrown_4
def F_X8_raises (fl : Nat) (t_thrown : Int32) (p1 : Int32) : Option (Int32 × Int32) := some ((0 : Int32), p1)
theorem iX8_raises_X8 : ∀ w ∈ u_ws RX8 TX8 22, w ∈ wsX8_raises := fun w h => List.mem_cons_of_mem _ (List.mem_append_right _ h)
set_option maxHeartbeats 4000000 in
set_option maxRecDepth 100000 in
theorem c_X8_raises (l : Launch) (D : va_G) (y : Nat → ClassId) (fl : Nat) (sz : Nat) (a_t : Nat) (a_t_now : Nat) (a_t_tried : Nat) (a_t_kept : Nat) (a_t_saved : Nat) (a_t_line : Nat) (a_t_text : Nat) (a_t_told : Nat) (a_t_way : Nat) (t_undos : Int32) (t_isSaved : Int32) (t_lined : Int32) (t_length : Int32) (t_at : Int32) (t_order : Int32) (t_fault : Int32) (t_reason : Int32) (t_detail : Int32) (t_index : Int32) (t_answer : Int32) (t_thrown : Int32) (t_went : Int32) (t_fell : Int32) (p1 : Int32) (r : Int32) (t_thrown' : Int32) (hF : F_X8_raises fl t_thrown p1 = some (r, t_thrown')) : Met l yX8_raises wsX8_raises (rmq 0 0) (wrP D y [(a_t, .inr (12, [.ref a_t_now, .ref a_t_tried, .ref a_t_kept, .int t_undos, .ref a_t_saved, .int t_isSaved, .ref a_t_line, .int t_lined, .ref a_t_text, .int t_length, .int t_at, .int t_order, .ref a_t_told, .int t_fault, .int t_reason, .int t_detail, .int t_index, .int t_answer, .int t_thrown, .ref a_t_way, .int t_went, .int t_fell]))] sz [.ref a_t, .int p1]) (wQi D y r [(a_t, .inr (12, [.ref a_t_now, .ref a_t_tried, .ref a_t_kept, .int t_undos, .ref a_t_saved, .int t_isSaved, .ref a_t_line, .int t_lined, .ref a_t_text, .int t_length, .int t_at, .int t_order, .ref a_t_told, .int t_fault, .int t_reason, .int t_detail, .int t_index, .int t_answer, .int t_thrown', .ref a_t_way, .int t_went, .int t_fell]))] [(a_t, .inr (12, [.ref a_t_now, .ref a_t_tried, .ref a_t_kept, .int t_undos, .ref a_t_saved, .int t_isSaved, .ref a_t_line, .int t_lined, .ref a_t_text, .int t_length, .int t_at, .int t_order, .ref a_t_told, .int t_fault, .int t_reason, .int t_detail, .int t_index, .int t_answer, .int t_thrown, .ref a_t_way, .int t_went, .int t_fell]))] sz) 0 0 (va_A [(a_t, .inr (12, [.ref a_t_now, .ref a_t_tried, .ref a_t_kept, .int t_undos, .ref a_t_saved, .int t_isSaved, .ref a_t_line, .int t_lined, .ref a_t_text, .int t_length, .int t_at, .int t_order, .ref a_t_told, .int t_fault, .int t_reason, .int t_detail, .int t_index, .int t_answer, .int t_thrown, .ref a_t_way, .int t_went, .int t_fell]))] sz) := by
  refine Met.ofW (cc := cX8_raises) (maxL := 2) (ret := (some .int)) (by decide) rfl ?_
  intro p e s m args below meth c s₁ B hml hv
  obtain ⟨hav, hsz, hP, hK, hD0⟩ := hv
  have hx := B.exec
  have hb := B.bytes
  have hr := B.returns
  have hts := atoms_spec (ws := wsX8_raises) B.pre
  have hown : s.vm.findClass RX8 = some m.cls := findClass_of_methodNamed B.named
  have hlocks := B.notSynchronized
  subst hsz
  have hD := hD0.self (sz := s.heap.size)
  obtain ⟨A, hAe⟩ : ∃ A : Nat → Prop, va_A [(a_t, .inr (12, [.ref a_t_now, .ref a_t_tried, .ref a_t_kept, .int t_undos, .ref a_t_saved, .int t_isSaved, .ref a_t_line, .int t_lined, .ref a_t_text, .int t_length, .int t_at, .int t_order, .ref a_t_told, .int t_fault, .int t_reason, .int t_detail, .int t_index, .int t_answer, .int t_thrown, .ref a_t_way, .int t_went, .int t_fell]))] s.heap.size = A := ⟨_, rfl⟩
  rw [hAe] at hD
  have hA : ∀ q, s.heap.size ≤ q → A q := fun q h => by rw [← hAe]; exact Or.inr h
  have hS : va_S A s.heap s.heap [] := va_S.rf
  refine W_q (R1 := (rmq 0 0)) rfl (fun Q0 hQ0 => ?_)
  unfold F_X8_raises at hF
  refine W_entry hav (Nat.le_of_ble_eq_true rfl) (fun ls hl => ?_)
  have hl : lv_has ls 2 [(0, .ref a_t), (1, .int p1)] := hl
  refine lv_aload_n hx hb dX8_raises_0 rfl (lv_at hl 0 rfl) ?_
  refine lv_iload_n hx hb dX8_raises_1 rfl (lv_at hl 1 rfl) ?_
  refine va_put (D := D) (ci := 12) (v := .int p1) (ty := .int) (C := RX8) (T := TX8) (N := 22) hx hb hts iX8_raises_X8 tyX8 tyX8_ok nmX8 hown hK hP hD hS 0 rfl rfl 18 (by decide) (hts (.fieldLink RX8 39 "SkipArchiveModel" "thrown" "I") (List.mem_of_getElem? (i := 1) rfl)) (fun _ h9 => h9) rfl (by decide +kernel) rfl rfl (Nat.le_of_ble_eq_true rfl) dX8_raises_2 (fun H locs hP hD hS => ?_)
  have hP : va_P D vwCl [(a_t, .inr (12, [.ref a_t_now, .ref a_t_tried, .ref a_t_kept, .int t_undos, .ref a_t_saved, .int t_isSaved, .ref a_t_line, .int t_lined, .ref a_t_text, .int t_length, .int t_at, .int t_order, .ref a_t_told, .int t_fault, .int t_reason, .int t_detail, .int t_index, .int t_answer, .int p1, .ref a_t_way, .int t_went, .int t_fell]))] H := hP
  have hD : va_D A [(a_t, .inr (12, [.ref a_t_now, .ref a_t_tried, .ref a_t_kept, .int t_undos, .ref a_t_saved, .int t_isSaved, .ref a_t_line, .int t_lined, .ref a_t_text, .int t_length, .int t_at, .int t_order, .ref a_t_told, .int t_fault, .int t_reason, .int t_detail, .int t_index, .int t_answer, .int p1, .ref a_t_way, .int t_went, .int t_fell]))] := hD
  refine lv_iconst (v := 0) hx hb dX8_raises_5 (by decide) ?_
  obtain ⟨e0_6, e1_6⟩ := inj2 hF
  rw [← e0_6, ← e1_6] at hQ0
  rw [hQ0]
  exact ret_i hx hb hr hlocks hAe hK hP hD hS [0] rfl rfl dX8_raises_6
def F_X8_in (fl : Nat) (p0 : Int32) (p1 : Int32) (p2 : Int32) : Option (Int32) := if p0 < p1 then (some (0 : Int32)) else (if p2 < p0 then (some (0 : Int32)) else (some (1 : Int32)))
set_option maxHeartbeats 4000000 in
set_option maxRecDepth 100000 in
theorem c_X8_in (l : Launch) (D : va_G) (y : Nat → ClassId) (fl : Nat) (p0 : Int32) (p1 : Int32) (p2 : Int32) (r : Int32) (hF : F_X8_in fl p0 p1 p2 = some r) : Met l yX8_in wsX8_in (rmq 0 0) (rdP D y [] [.int p0, .int p1, .int p2]) (QcRead r) 0 0 (fun _ => False) := by
  refine Met.ofW (cc := cX8_in) (maxL := 3) (ret := (some .boolean)) (by decide) rfl ?_
  intro p e s m args below meth c s₁ B hml hv
  obtain ⟨hav, hP, hK⟩ := hv
  have hx := B.exec
  have hb := B.bytes
  have hr := B.returns
  have hts := atoms_spec (ws := wsX8_in) B.pre
  have hown : s.vm.findClass RX8 = some m.cls := findClass_of_methodNamed B.named
  have hlocks := B.notSynchronized
  refine W_q (R1 := (rmq 0 0)) rfl (fun Q0 hQ0 => ?_)
  unfold F_X8_in at hF
  refine W_entry hav (Nat.le_of_ble_eq_true rfl) (fun ls hl => ?_)
  have hl : lv_has ls 3 [(0, .int p0), (1, .int p1), (2, .int p2)] := hl
  refine lv_iload_n hx hb dX8_in_0 rfl (lv_at hl 0 rfl) ?_
  refine lv_iload_n hx hb dX8_in_1 rfl (lv_at hl 1 rfl) ?_
  refine lv_icmp_lt (tgt := 14) hx hb dX8_in_2 (by decide) (fun c_2 => ?_) (fun c_2 => ?_)
  · have hF := ift hF c_2
    refine lv_iconst (v := 0) hx hb dX8_in_14 (by decide) ?_
    obtain e0_15 := inj1 hF
    rw [← e0_15] at hQ0
    rw [hQ0]
    exact W.zret (v := (0 : Int32)) hx hb hr (by decide +kernel) (fun t ht hW => ⟨rfl, ht⟩) (fun _ h => nomatch h) dX8_in_15
  · have hF := iff_ hF c_2
    refine lv_iload_n hx hb dX8_in_5 rfl (lv_at hl 0 rfl) ?_
    refine lv_iload_n hx hb dX8_in_6 rfl (lv_at hl 2 rfl) ?_
    refine lv_icmp_gt (tgt := 14) hx hb dX8_in_7 (by decide) (fun c_7 => ?_) (fun c_7 => ?_)
    · have hF := ift hF c_7
      refine lv_iconst (v := 0) hx hb dX8_in_14 (by decide) ?_
      obtain e0_15 := inj1 hF
      rw [← e0_15] at hQ0
      rw [hQ0]
      exact W.zret (v := (0 : Int32)) hx hb hr (by decide +kernel) (fun t ht hW => ⟨rfl, ht⟩) (fun _ h => nomatch h) dX8_in_15
    · have hF := iff_ hF c_7
      refine lv_iconst (v := 1) hx hb dX8_in_10 (by decide) ?_
      refine lv_goto (tgt := 15) hx hb dX8_in_11 (by decide) ?_
      obtain e0_15 := inj1 hF
      rw [← e0_15] at hQ0
      rw [hQ0]
      exact W.zret (v := (1 : Int32)) hx hb hr (by decide +kernel) (fun t ht hW => ⟨rfl, ht⟩) (fun _ h => nomatch h) dX8_in_15
def F_X8_isKey (fl : Nat) (p0 : Int32) : Option (Int32) := bn (F_X8_in fl p0 (0 : Int32) (999 : Int32)) fun r_5 => gd (okB r_5 = true) (some r_5)
set_option maxHeartbeats 4000000 in
set_option maxRecDepth 100000 in
theorem c_X8_isKey (l : Launch) (D : va_G) (y : Nat → ClassId) (fl : Nat) (p0 : Int32) (r : Int32) (hF : F_X8_isKey fl p0 = some r) : Met l yX8_isKey wsX8_isKey (rmq 1 22) (rdP D y [] [.int p0]) (QcRead r) 0 0 (fun _ => False) := by
  refine Met.ofW (cc := cX8_isKey) (maxL := 1) (ret := (some .boolean)) (by decide) rfl ?_
  intro p e s m args below meth c s₁ B hml hv
  obtain ⟨hav, hP, hK⟩ := hv
  have hx := B.exec
  have hb := B.bytes
  have hr := B.returns
  have hts := atoms_spec (ws := wsX8_isKey) B.pre
  have hown : s.vm.findClass RX8 = some m.cls := findClass_of_methodNamed B.named
  have hlocks := B.notSynchronized
  refine W_q (R1 := (rmq 1 22)) rfl (fun Q0 hQ0 => ?_)
  unfold F_X8_isKey at hF
  refine W_entry hav (Nat.le_of_ble_eq_true rfl) (fun ls hl => ?_)
  have hl : lv_has ls 1 [(0, .int p0)] := hl
  refine lv_iload_n hx hb dX8_isKey_0 rfl (lv_at hl 0 rfl) ?_
  refine lv_iconst (v := 0) hx hb dX8_isKey_1 (by decide) ?_
  refine lv_sipush (v := 999) hx hb dX8_isKey_2 (by decide) ?_
  obtain ⟨r_5, hq_5, hF⟩ := bn_i hF
  refine cr_S (As := [.int p0, .int (0 : Int32), .int (999 : Int32)]) (rest := []) ⟨hx, hb, hml, hown, hts⟩ (c_X8_in l D y fl p0 (0 : Int32) (999 : Int32) r_5 hq_5) (va_cwS 3 hts gX8_isKey_X8_in rfl rfl rfl (by decide +kernel) ⟨Nat.le_of_ble_eq_true rfl, Nat.le_of_ble_eq_true rfl⟩) hK hP [] rfl rfl hl.1 rfl (Nat.le_of_ble_eq_true rfl) dX8_isKey_5 ⟨Nat.le_of_ble_eq_true rfl, Nat.le_of_ble_eq_true rfl⟩ ?_
  obtain ⟨g_8, hF⟩ := gd_i hF
  obtain e0_8 := inj1 hF
  rw [← e0_8] at hQ0
  rw [hQ0]
  exact W.zret (v := r_5) hx hb hr (okB_n g_8).1 (fun t ht hW => ⟨rfl, ht⟩) (fun _ h => nomatch h) dX8_isKey_8
def F_X8_isWeight (fl : Nat) (p0 : Int32) : Option (Int32) := bn (F_X8_in fl p0 (0 : Int32) (99 : Int32)) fun r_4 => gd (okB r_4 = true) (some r_4)
set_option maxHeartbeats 4000000 in
set_option maxRecDepth 100000 in
theorem c_X8_isWeight (l : Launch) (D : va_G) (y : Nat → ClassId) (fl : Nat) (p0 : Int32) (r : Int32) (hF : F_X8_isWeight fl p0 = some r) : Met l yX8_isWeight wsX8_isWeight (rmq 1 22) (rdP D y [] [.int p0]) (QcRead r) 0 0 (fun _ => False) := by
  refine Met.ofW (cc := cX8_isWeight) (maxL := 1) (ret := (some .boolean)) (by decide) rfl ?_
  intro p e s m args below meth c s₁ B hml hv
  obtain ⟨hav, hP, hK⟩ := hv
  have hx := B.exec
  have hb := B.bytes
  have hr := B.returns
  have hts := atoms_spec (ws := wsX8_isWeight) B.pre
  have hown : s.vm.findClass RX8 = some m.cls := findClass_of_methodNamed B.named
  have hlocks := B.notSynchronized
  refine W_q (R1 := (rmq 1 22)) rfl (fun Q0 hQ0 => ?_)
  unfold F_X8_isWeight at hF
  refine W_entry hav (Nat.le_of_ble_eq_true rfl) (fun ls hl => ?_)
  have hl : lv_has ls 1 [(0, .int p0)] := hl
  refine lv_iload_n hx hb dX8_isWeight_0 rfl (lv_at hl 0 rfl) ?_
  refine lv_iconst (v := 0) hx hb dX8_isWeight_1 (by decide) ?_
  refine lv_bipush (v := 99) hx hb dX8_isWeight_2 (by decide) ?_
  obtain ⟨r_4, hq_4, hF⟩ := bn_i hF
  refine cr_S (As := [.int p0, .int (0 : Int32), .int (99 : Int32)]) (rest := []) ⟨hx, hb, hml, hown, hts⟩ (c_X8_in l D y fl p0 (0 : Int32) (99 : Int32) r_4 hq_4) (va_cwS 3 hts gX8_isWeight_X8_in rfl rfl rfl (by decide +kernel) ⟨Nat.le_of_ble_eq_true rfl, Nat.le_of_ble_eq_true rfl⟩) hK hP [] rfl rfl hl.1 rfl (Nat.le_of_ble_eq_true rfl) dX8_isWeight_4 ⟨Nat.le_of_ble_eq_true rfl, Nat.le_of_ble_eq_true rfl⟩ ?_
  obtain ⟨g_7, hF⟩ := gd_i hF
  obtain e0_7 := inj1 hF
  rw [← e0_7] at hQ0
  rw [hQ0]
  exact W.zret (v := r_4) hx hb hr (okB_n g_7).1 (fun t ht hW => ⟨rfl, ht⟩) (fun _ h => nomatch h) dX8_isWeight_7
def F_X8_isLevel (fl : Nat) (p0 : Int32) : Option (Int32) := bn (F_X8_in fl p0 (0 : Int32) (4 : Int32)) fun r_3 => gd (okB r_3 = true) (some r_3)
set_option maxHeartbeats 4000000 in
set_option maxRecDepth 100000 in
theorem c_X8_isLevel (l : Launch) (D : va_G) (y : Nat → ClassId) (fl : Nat) (p0 : Int32) (r : Int32) (hF : F_X8_isLevel fl p0 = some r) : Met l yX8_isLevel wsX8_isLevel (rmq 1 22) (rdP D y [] [.int p0]) (QcRead r) 0 0 (fun _ => False) := by
  refine Met.ofW (cc := cX8_isLevel) (maxL := 1) (ret := (some .boolean)) (by decide) rfl ?_
  intro p e s m args below meth c s₁ B hml hv
  obtain ⟨hav, hP, hK⟩ := hv
  have hx := B.exec
  have hb := B.bytes
  have hr := B.returns
  have hts := atoms_spec (ws := wsX8_isLevel) B.pre
  have hown : s.vm.findClass RX8 = some m.cls := findClass_of_methodNamed B.named
  have hlocks := B.notSynchronized
  refine W_q (R1 := (rmq 1 22)) rfl (fun Q0 hQ0 => ?_)
  unfold F_X8_isLevel at hF
  refine W_entry hav (Nat.le_of_ble_eq_true rfl) (fun ls hl => ?_)
  have hl : lv_has ls 1 [(0, .int p0)] := hl
  refine lv_iload_n hx hb dX8_isLevel_0 rfl (lv_at hl 0 rfl) ?_
  refine lv_iconst (v := 0) hx hb dX8_isLevel_1 (by decide) ?_
  refine lv_iconst (v := 4) hx hb dX8_isLevel_2 (by decide) ?_
  obtain ⟨r_3, hq_3, hF⟩ := bn_i hF
  refine cr_S (As := [.int p0, .int (0 : Int32), .int (4 : Int32)]) (rest := []) ⟨hx, hb, hml, hown, hts⟩ (c_X8_in l D y fl p0 (0 : Int32) (4 : Int32) r_3 hq_3) (va_cwS 3 hts gX8_isLevel_X8_in rfl rfl rfl (by decide +kernel) ⟨Nat.le_of_ble_eq_true rfl, Nat.le_of_ble_eq_true rfl⟩) hK hP [] rfl rfl hl.1 rfl (Nat.le_of_ble_eq_true rfl) dX8_isLevel_3 ⟨Nat.le_of_ble_eq_true rfl, Nat.le_of_ble_eq_true rfl⟩ ?_
  obtain ⟨g_6, hF⟩ := gd_i hF
  obtain e0_6 := inj1 hF
  rw [← e0_6] at hQ0
  rw [hQ0]
  exact W.zret (v := r_3) hx hb hr (okB_n g_6).1 (fun t ht hW => ⟨rfl, ht⟩) (fun _ h => nomatch h) dX8_isLevel_6
def F_X8_isRange (fl : Nat) (p0 : Int32) (p1 : Int32) : Option (Int32) := bn (F_X8_isKey fl p0) fun r_1 => if r_1 = 0 then (some (0 : Int32)) else (bn (F_X8_isKey fl p1) fun r_8 => if r_8 = 0 then (some (0 : Int32)) else (if p1 < p0 then (some (0 : Int32)) else (some (1 : Int32))))
set_option maxHeartbeats 4000000 in
set_option maxRecDepth 100000 in
theorem c_X8_isRange (l : Launch) (D : va_G) (y : Nat → ClassId) (fl : Nat) (p0 : Int32) (p1 : Int32) (r : Int32) (hF : F_X8_isRange fl p0 p1 = some r) : Met l yX8_isRange wsX8_isRange (rmq 2 42) (rdP D y [] [.int p0, .int p1]) (QcRead r) 0 0 (fun _ => False) := by
  refine Met.ofW (cc := cX8_isRange) (maxL := 2) (ret := (some .boolean)) (by decide) rfl ?_
  intro p e s m args below meth c s₁ B hml hv
  obtain ⟨hav, hP, hK⟩ := hv
  have hx := B.exec
  have hb := B.bytes
  have hr := B.returns
  have hts := atoms_spec (ws := wsX8_isRange) B.pre
  have hown : s.vm.findClass RX8 = some m.cls := findClass_of_methodNamed B.named
  have hlocks := B.notSynchronized
  refine W_q (R1 := (rmq 2 42)) rfl (fun Q0 hQ0 => ?_)
  unfold F_X8_isRange at hF
  refine W_entry hav (Nat.le_of_ble_eq_true rfl) (fun ls hl => ?_)
  have hl : lv_has ls 2 [(0, .int p0), (1, .int p1)] := hl
  refine lv_iload_n hx hb dX8_isRange_0 rfl (lv_at hl 0 rfl) ?_
  obtain ⟨r_1, hq_1, hF⟩ := bn_i hF
  refine cr_S (As := [.int p0]) (rest := []) ⟨hx, hb, hml, hown, hts⟩ (c_X8_isKey l D y fl p0 r_1 hq_1) (va_cwS 1 hts gX8_isRange_X8_isKey rfl rfl rfl (by decide +kernel) ⟨Nat.le_of_ble_eq_true rfl, Nat.le_of_ble_eq_true rfl⟩) hK hP [] rfl rfl hl.1 rfl (Nat.le_of_ble_eq_true rfl) dX8_isRange_1 ⟨Nat.le_of_ble_eq_true rfl, Nat.le_of_ble_eq_true rfl⟩ ?_
  refine lv_if_eq (tgt := 23) hx hb dX8_isRange_4 (by decide) (fun c_4 => ?_) (fun c_4 => ?_)
  · have hF := ift hF c_4
    refine lv_iconst (v := 0) hx hb dX8_isRange_23 (by decide) ?_
    obtain e0_24 := inj1 hF
    rw [← e0_24] at hQ0
    rw [hQ0]
    exact W.zret (v := (0 : Int32)) hx hb hr (by decide +kernel) (fun t ht hW => ⟨rfl, ht⟩) (fun _ h => nomatch h) dX8_isRange_24
  · have hF := iff_ hF c_4
    refine lv_iload_n hx hb dX8_isRange_7 rfl (lv_at hl 1 rfl) ?_
    obtain ⟨r_8, hq_8, hF⟩ := bn_i hF
    refine cr_S (As := [.int p1]) (rest := []) ⟨hx, hb, hml, hown, hts⟩ (c_X8_isKey l D y fl p1 r_8 hq_8) (va_cwS 1 hts gX8_isRange_X8_isKey rfl rfl rfl (by decide +kernel) ⟨Nat.le_of_ble_eq_true rfl, Nat.le_of_ble_eq_true rfl⟩) hK hP [] rfl rfl hl.1 rfl (Nat.le_of_ble_eq_true rfl) dX8_isRange_8 ⟨Nat.le_of_ble_eq_true rfl, Nat.le_of_ble_eq_true rfl⟩ ?_
    refine lv_if_eq (tgt := 23) hx hb dX8_isRange_11 (by decide) (fun c_11 => ?_) (fun c_11 => ?_)
    · have hF := ift hF c_11
      refine lv_iconst (v := 0) hx hb dX8_isRange_23 (by decide) ?_
      obtain e0_24 := inj1 hF
      rw [← e0_24] at hQ0
      rw [hQ0]
      exact W.zret (v := (0 : Int32)) hx hb hr (by decide +kernel) (fun t ht hW => ⟨rfl, ht⟩) (fun _ h => nomatch h) dX8_isRange_24
    · have hF := iff_ hF c_11
      refine lv_iload_n hx hb dX8_isRange_14 rfl (lv_at hl 0 rfl) ?_
      refine lv_iload_n hx hb dX8_isRange_15 rfl (lv_at hl 1 rfl) ?_
      refine lv_icmp_gt (tgt := 23) hx hb dX8_isRange_16 (by decide) (fun c_16 => ?_) (fun c_16 => ?_)
      · have hF := ift hF c_16
        refine lv_iconst (v := 0) hx hb dX8_isRange_23 (by decide) ?_
        obtain e0_24 := inj1 hF
        rw [← e0_24] at hQ0
        rw [hQ0]
        exact W.zret (v := (0 : Int32)) hx hb hr (by decide +kernel) (fun t ht hW => ⟨rfl, ht⟩) (fun _ h => nomatch h) dX8_isRange_24
      · have hF := iff_ hF c_16
        refine lv_iconst (v := 1) hx hb dX8_isRange_19 (by decide) ?_
        refine lv_goto (tgt := 24) hx hb dX8_isRange_20 (by decide) ?_
        obtain e0_24 := inj1 hF
        rw [← e0_24] at hQ0
        rw [hQ0]
        exact W.zret (v := (1 : Int32)) hx hb hr (by decide +kernel) (fun t ht hW => ⟨rfl, ht⟩) (fun _ h => nomatch h) dX8_isRange_24
def F_X8_key (fl : Nat) (t_now : Nat → Int32) (p1 : Int32) : Option (Int32) := gi ((5 : Int32) + ((3 : Int32) * p1)) 77 (some (t_now ((5 : Int32) + ((3 : Int32) * p1)).toNatClampNeg))
theorem iX8_key_X8 : ∀ w ∈ u_ws RX8 TX8 22, w ∈ wsX8_key := fun w h => List.mem_cons_of_mem _ (List.mem_append_left _ (List.mem_append_right _ h))
set_option maxHeartbeats 4000000 in
set_option maxRecDepth 100000 in
theorem c_X8_key (l : Launch) (D : va_G) (y : Nat → ClassId) (fl : Nat) (a_t : Nat) (a_t_now : Nat) (a_t_tried : Nat) (a_t_kept : Nat) (a_t_saved : Nat) (a_t_line : Nat) (a_t_text : Nat) (a_t_told : Nat) (a_t_way : Nat) (t_undos : Int32) (t_isSaved : Int32) (t_lined : Int32) (t_length : Int32) (t_at : Int32) (t_order : Int32) (t_fault : Int32) (t_reason : Int32) (t_detail : Int32) (t_index : Int32) (t_answer : Int32) (t_thrown : Int32) (t_went : Int32) (t_fell : Int32) (t_now : Nat → Int32) (p1 : Int32) (r : Int32) (hF : F_X8_key fl t_now p1 = some r) : Met l yX8_key wsX8_key (rmq 0 0) (rdP D y [(a_t, .inr (12, [.ref a_t_now, .ref a_t_tried, .ref a_t_kept, .int t_undos, .ref a_t_saved, .int t_isSaved, .ref a_t_line, .int t_lined, .ref a_t_text, .int t_length, .int t_at, .int t_order, .ref a_t_told, .int t_fault, .int t_reason, .int t_detail, .int t_index, .int t_answer, .int t_thrown, .ref a_t_way, .int t_went, .int t_fell])), (a_t_now, .inl (y 0, 77, .inl t_now))] [.ref a_t, .int p1]) (QcRead r) 0 0 (fun _ => False) := by
  refine Met.ofW (cc := cX8_key) (maxL := 2) (ret := (some .int)) (by decide) rfl ?_
  intro p e s m args below meth c s₁ B hml hv
  obtain ⟨hav, hP, hK⟩ := hv
  have hx := B.exec
  have hb := B.bytes
  have hr := B.returns
  have hts := atoms_spec (ws := wsX8_key) B.pre
  have hown : s.vm.findClass RX8 = some m.cls := findClass_of_methodNamed B.named
  have hlocks := B.notSynchronized
  refine W_q (R1 := (rmq 0 0)) rfl (fun Q0 hQ0 => ?_)
  unfold F_X8_key at hF
  refine W_entry hav (Nat.le_of_ble_eq_true rfl) (fun ls hl => ?_)
  have hl : lv_has ls 2 [(0, .ref a_t), (1, .int p1)] := hl
  refine lv_aload_n hx hb dX8_key_0 rfl (lv_at hl 0 rfl) ?_
  refine va_get (D := D) (ci := 12) (v := .ref a_t_now) (C := RX8) (T := TX8) (N := 22) hx hb hts iX8_key_X8 hown hK hP 0 rfl rfl 0 (by decide) (hts (.fieldLink RX8 9 "SkipArchiveModel" "now" "[I") (List.mem_of_getElem? (i := 1) rfl)) (fun _ h9 => h9) rfl dX8_key_1 ?_
  refine lv_iconst (v := 5) hx hb dX8_key_4 (by decide) ?_
  refine lv_iconst (v := 3) hx hb dX8_key_5 (by decide) ?_
  refine lv_iload_n hx hb dX8_key_6 rfl (lv_at hl 1 rfl) ?_
  refine lv_imul hx hb dX8_key_7 ?_
  refine lv_iadd hx hb dX8_key_8 ?_
  obtain ⟨g_9, hF⟩ := gi_i hF
  refine va_iald hx hb hK hP 1 0 rfl rfl g_9 dX8_key_9 ?_
  obtain e0_10 := inj1 hF
  rw [← e0_10] at hQ0
  rw [hQ0]
  exact W.iret (v := t_now ((5 : Int32) + ((3 : Int32) * p1)).toNatClampNeg) hx hb hr (fun t ht hW => ⟨rfl, ht⟩) (fun _ h => nomatch h) dX8_key_10
def F_X8_weight (fl : Nat) (t_now : Nat → Int32) (p1 : Int32) : Option (Int32) := gi (((5 : Int32) + ((3 : Int32) * p1)) + (1 : Int32)) 77 (some (t_now (((5 : Int32) + ((3 : Int32) * p1)) + (1 : Int32)).toNatClampNeg))
theorem iX8_weight_X8 : ∀ w ∈ u_ws RX8 TX8 22, w ∈ wsX8_weight := fun w h => List.mem_cons_of_mem _ (List.mem_append_left _ (List.mem_append_right _ h))
set_option maxHeartbeats 4000000 in
set_option maxRecDepth 100000 in
theorem c_X8_weight (l : Launch) (D : va_G) (y : Nat → ClassId) (fl : Nat) (a_t : Nat) (a_t_now : Nat) (a_t_tried : Nat) (a_t_kept : Nat) (a_t_saved : Nat) (a_t_line : Nat) (a_t_text : Nat) (a_t_told : Nat) (a_t_way : Nat) (t_undos : Int32) (t_isSaved : Int32) (t_lined : Int32) (t_length : Int32) (t_at : Int32) (t_order : Int32) (t_fault : Int32) (t_reason : Int32) (t_detail : Int32) (t_index : Int32) (t_answer : Int32) (t_thrown : Int32) (t_went : Int32) (t_fell : Int32) (t_now : Nat → Int32) (p1 : Int32) (r : Int32) (hF : F_X8_weight fl t_now p1 = some r) : Met l yX8_weight wsX8_weight (rmq 0 0) (rdP D y [(a_t, .inr (12, [.ref a_t_now, .ref a_t_tried, .ref a_t_kept, .int t_undos, .ref a_t_saved, .int t_isSaved, .ref a_t_line, .int t_lined, .ref a_t_text, .int t_length, .int t_at, .int t_order, .ref a_t_told, .int t_fault, .int t_reason, .int t_detail, .int t_index, .int t_answer, .int t_thrown, .ref a_t_way, .int t_went, .int t_fell])), (a_t_now, .inl (y 0, 77, .inl t_now))] [.ref a_t, .int p1]) (QcRead r) 0 0 (fun _ => False) := by
  refine Met.ofW (cc := cX8_weight) (maxL := 2) (ret := (some .int)) (by decide) rfl ?_
  intro p e s m args below meth c s₁ B hml hv
  obtain ⟨hav, hP, hK⟩ := hv
  have hx := B.exec
  have hb := B.bytes
  have hr := B.returns
  have hts := atoms_spec (ws := wsX8_weight) B.pre
  have hown : s.vm.findClass RX8 = some m.cls := findClass_of_methodNamed B.named
  have hlocks := B.notSynchronized
  refine W_q (R1 := (rmq 0 0)) rfl (fun Q0 hQ0 => ?_)
  unfold F_X8_weight at hF
  refine W_entry hav (Nat.le_of_ble_eq_true rfl) (fun ls hl => ?_)
  have hl : lv_has ls 2 [(0, .ref a_t), (1, .int p1)] := hl
  refine lv_aload_n hx hb dX8_weight_0 rfl (lv_at hl 0 rfl) ?_
  refine va_get (D := D) (ci := 12) (v := .ref a_t_now) (C := RX8) (T := TX8) (N := 22) hx hb hts iX8_weight_X8 hown hK hP 0 rfl rfl 0 (by decide) (hts (.fieldLink RX8 9 "SkipArchiveModel" "now" "[I") (List.mem_of_getElem? (i := 1) rfl)) (fun _ h9 => h9) rfl dX8_weight_1 ?_
  refine lv_iconst (v := 5) hx hb dX8_weight_4 (by decide) ?_
  refine lv_iconst (v := 3) hx hb dX8_weight_5 (by decide) ?_
  refine lv_iload_n hx hb dX8_weight_6 rfl (lv_at hl 1 rfl) ?_
  refine lv_imul hx hb dX8_weight_7 ?_
  refine lv_iadd hx hb dX8_weight_8 ?_
  refine lv_iconst (v := 1) hx hb dX8_weight_9 (by decide) ?_
  refine lv_iadd hx hb dX8_weight_10 ?_
  obtain ⟨g_11, hF⟩ := gi_i hF
  refine va_iald hx hb hK hP 1 0 rfl rfl g_11 dX8_weight_11 ?_
  obtain e0_12 := inj1 hF
  rw [← e0_12] at hQ0
  rw [hQ0]
  exact W.iret (v := t_now (((5 : Int32) + ((3 : Int32) * p1)) + (1 : Int32)).toNatClampNeg) hx hb hr (fun t ht hW => ⟨rfl, ht⟩) (fun _ h => nomatch h) dX8_weight_12
def F_X8_rungs (fl : Nat) (t_now : Nat → Int32) (p1 : Int32) : Option (Int32) := gi (((5 : Int32) + ((3 : Int32) * p1)) + (2 : Int32)) 77 (some (t_now (((5 : Int32) + ((3 : Int32) * p1)) + (2 : Int32)).toNatClampNeg))
theorem iX8_rungs_X8 : ∀ w ∈ u_ws RX8 TX8 22, w ∈ wsX8_rungs := fun w h => List.mem_cons_of_mem _ (List.mem_append_left _ (List.mem_append_right _ h))
set_option maxHeartbeats 4000000 in
set_option maxRecDepth 100000 in
theorem c_X8_rungs (l : Launch) (D : va_G) (y : Nat → ClassId) (fl : Nat) (a_t : Nat) (a_t_now : Nat) (a_t_tried : Nat) (a_t_kept : Nat) (a_t_saved : Nat) (a_t_line : Nat) (a_t_text : Nat) (a_t_told : Nat) (a_t_way : Nat) (t_undos : Int32) (t_isSaved : Int32) (t_lined : Int32) (t_length : Int32) (t_at : Int32) (t_order : Int32) (t_fault : Int32) (t_reason : Int32) (t_detail : Int32) (t_index : Int32) (t_answer : Int32) (t_thrown : Int32) (t_went : Int32) (t_fell : Int32) (t_now : Nat → Int32) (p1 : Int32) (r : Int32) (hF : F_X8_rungs fl t_now p1 = some r) : Met l yX8_rungs wsX8_rungs (rmq 0 0) (rdP D y [(a_t, .inr (12, [.ref a_t_now, .ref a_t_tried, .ref a_t_kept, .int t_undos, .ref a_t_saved, .int t_isSaved, .ref a_t_line, .int t_lined, .ref a_t_text, .int t_length, .int t_at, .int t_order, .ref a_t_told, .int t_fault, .int t_reason, .int t_detail, .int t_index, .int t_answer, .int t_thrown, .ref a_t_way, .int t_went, .int t_fell])), (a_t_now, .inl (y 0, 77, .inl t_now))] [.ref a_t, .int p1]) (QcRead r) 0 0 (fun _ => False) := by
  refine Met.ofW (cc := cX8_rungs) (maxL := 2) (ret := (some .int)) (by decide) rfl ?_
  intro p e s m args below meth c s₁ B hml hv
  obtain ⟨hav, hP, hK⟩ := hv
  have hx := B.exec
  have hb := B.bytes
  have hr := B.returns
  have hts := atoms_spec (ws := wsX8_rungs) B.pre
  have hown : s.vm.findClass RX8 = some m.cls := findClass_of_methodNamed B.named
  have hlocks := B.notSynchronized
  refine W_q (R1 := (rmq 0 0)) rfl (fun Q0 hQ0 => ?_)
  unfold F_X8_rungs at hF
  refine W_entry hav (Nat.le_of_ble_eq_true rfl) (fun ls hl => ?_)
  have hl : lv_has ls 2 [(0, .ref a_t), (1, .int p1)] := hl
  refine lv_aload_n hx hb dX8_rungs_0 rfl (lv_at hl 0 rfl) ?_
  refine va_get (D := D) (ci := 12) (v := .ref a_t_now) (C := RX8) (T := TX8) (N := 22) hx hb hts iX8_rungs_X8 hown hK hP 0 rfl rfl 0 (by decide) (hts (.fieldLink RX8 9 "SkipArchiveModel" "now" "[I") (List.mem_of_getElem? (i := 1) rfl)) (fun _ h9 => h9) rfl dX8_rungs_1 ?_
  refine lv_iconst (v := 5) hx hb dX8_rungs_4 (by decide) ?_
  refine lv_iconst (v := 3) hx hb dX8_rungs_5 (by decide) ?_
  refine lv_iload_n hx hb dX8_rungs_6 rfl (lv_at hl 1 rfl) ?_
  refine lv_imul hx hb dX8_rungs_7 ?_
  refine lv_iadd hx hb dX8_rungs_8 ?_
  refine lv_iconst (v := 2) hx hb dX8_rungs_9 (by decide) ?_
  refine lv_iadd hx hb dX8_rungs_10 ?_
  obtain ⟨g_11, hF⟩ := gi_i hF
  refine va_iald hx hb hK hP 1 0 rfl rfl g_11 dX8_rungs_11 ?_
  obtain e0_12 := inj1 hF
  rw [← e0_12] at hQ0
  rw [hQ0]
  exact W.iret (v := t_now (((5 : Int32) + ((3 : Int32) * p1)) + (2 : Int32)).toNatClampNeg) hx hb hr (fun t ht hW => ⟨rfl, ht⟩) (fun _ h => nomatch h) dX8_rungs_12
def F_X8_isOut (fl : Nat) (t_now : Nat → Int32) (p1 : Int32) : Option (Int32) := gi (4 : Int32) 77 (if (((t_now (4 : Int32).toNatClampNeg) >>> (p1 &&& 31)) &&& (1 : Int32)) = (1 : Int32) then (some (1 : Int32)) else (some (0 : Int32)))
theorem iX8_isOut_X8 : ∀ w ∈ u_ws RX8 TX8 22, w ∈ wsX8_isOut := fun w h => List.mem_cons_of_mem _ (List.mem_append_left _ (List.mem_append_right _ h))
set_option maxHeartbeats 4000000 in
set_option maxRecDepth 100000 in
theorem c_X8_isOut (l : Launch) (D : va_G) (y : Nat → ClassId) (fl : Nat) (a_t : Nat) (a_t_now : Nat) (a_t_tried : Nat) (a_t_kept : Nat) (a_t_saved : Nat) (a_t_line : Nat) (a_t_text : Nat) (a_t_told : Nat) (a_t_way : Nat) (t_undos : Int32) (t_isSaved : Int32) (t_lined : Int32) (t_length : Int32) (t_at : Int32) (t_order : Int32) (t_fault : Int32) (t_reason : Int32) (t_detail : Int32) (t_index : Int32) (t_answer : Int32) (t_thrown : Int32) (t_went : Int32) (t_fell : Int32) (t_now : Nat → Int32) (p1 : Int32) (r : Int32) (hF : F_X8_isOut fl t_now p1 = some r) : Met l yX8_isOut wsX8_isOut (rmq 0 0) (rdP D y [(a_t, .inr (12, [.ref a_t_now, .ref a_t_tried, .ref a_t_kept, .int t_undos, .ref a_t_saved, .int t_isSaved, .ref a_t_line, .int t_lined, .ref a_t_text, .int t_length, .int t_at, .int t_order, .ref a_t_told, .int t_fault, .int t_reason, .int t_detail, .int t_index, .int t_answer, .int t_thrown, .ref a_t_way, .int t_went, .int t_fell])), (a_t_now, .inl (y 0, 77, .inl t_now))] [.ref a_t, .int p1]) (QcRead r) 0 0 (fun _ => False) := by
  refine Met.ofW (cc := cX8_isOut) (maxL := 2) (ret := (some .boolean)) (by decide) rfl ?_
  intro p e s m args below meth c s₁ B hml hv
  obtain ⟨hav, hP, hK⟩ := hv
  have hx := B.exec
  have hb := B.bytes
  have hr := B.returns
  have hts := atoms_spec (ws := wsX8_isOut) B.pre
  have hown : s.vm.findClass RX8 = some m.cls := findClass_of_methodNamed B.named
  have hlocks := B.notSynchronized
  refine W_q (R1 := (rmq 0 0)) rfl (fun Q0 hQ0 => ?_)
  unfold F_X8_isOut at hF
  refine W_entry hav (Nat.le_of_ble_eq_true rfl) (fun ls hl => ?_)
  have hl : lv_has ls 2 [(0, .ref a_t), (1, .int p1)] := hl
  refine lv_aload_n hx hb dX8_isOut_0 rfl (lv_at hl 0 rfl) ?_
  refine va_get (D := D) (ci := 12) (v := .ref a_t_now) (C := RX8) (T := TX8) (N := 22) hx hb hts iX8_isOut_X8 hown hK hP 0 rfl rfl 0 (by decide) (hts (.fieldLink RX8 9 "SkipArchiveModel" "now" "[I") (List.mem_of_getElem? (i := 1) rfl)) (fun _ h9 => h9) rfl dX8_isOut_1 ?_
  refine lv_iconst (v := 4) hx hb dX8_isOut_4 (by decide) ?_
  obtain ⟨g_5, hF⟩ := gi_i hF
  refine va_iald hx hb hK hP 1 0 rfl rfl g_5 dX8_isOut_5 ?_
  refine lv_iload_n hx hb dX8_isOut_6 rfl (lv_at hl 1 rfl) ?_
  refine lv_ishr hx hb dX8_isOut_7 ?_
  refine lv_iconst (v := 1) hx hb dX8_isOut_8 (by decide) ?_
  refine lv_iand hx hb dX8_isOut_9 ?_
  refine lv_iconst (v := 1) hx hb dX8_isOut_10 (by decide) ?_
  refine lv_icmp_ne (tgt := 18) hx hb dX8_isOut_11 (by decide) (fun c_11 => ?_) (fun c_11 => ?_)
  · have hF := iff_ hF c_11
    refine lv_iconst (v := 0) hx hb dX8_isOut_18 (by decide) ?_
    obtain e0_19 := inj1 hF
    rw [← e0_19] at hQ0
    rw [hQ0]
    exact W.zret (v := (0 : Int32)) hx hb hr (by decide +kernel) (fun t ht hW => ⟨rfl, ht⟩) (fun _ h => nomatch h) dX8_isOut_19
  · have hF := ift hF c_11
    refine lv_iconst (v := 1) hx hb dX8_isOut_14 (by decide) ?_
    refine lv_goto (tgt := 19) hx hb dX8_isOut_15 (by decide) ?_
    obtain e0_19 := inj1 hF
    rw [← e0_19] at hQ0
    rw [hQ0]
    exact W.zret (v := (1 : Int32)) hx hb hr (by decide +kernel) (fun t ht hW => ⟨rfl, ht⟩) (fun _ h => nomatch h) dX8_isOut_19
def F_X8_lower_2 (fl : Nat) (t_now : Nat → Int32) : Nat → Int32 → Int32 → Int32 → Option (Int32)
  | 0, _, _, _ => none
  | n + 1, x1, x2, x3 => gi (0 : Int32) 77 (if (t_now (0 : Int32).toNatClampNeg) ≤ x3 then (some x3) else (bn (F_X8_key fl t_now x3) fun r_14 => if r_14 < x1 then (F_X8_lower_2 fl t_now n x1 x2 (x3 + (1 : Int32))) else (if x2 = 0 then (some x3) else (bn (F_X8_key fl t_now x3) fun r_27 => if r_27 = x1 then (F_X8_lower_2 fl t_now n x1 x2 (x3 + (1 : Int32))) else (some x3)))))
def F_X8_lower (fl : Nat) (t_now : Nat → Int32) (p1 : Int32) (p2 : Int32) : Option (Int32) := F_X8_lower_2 fl t_now fl p1 p2 (0 : Int32)
theorem iX8_lower_X8 : ∀ w ∈ u_ws RX8 TX8 22, w ∈ wsX8_lower := fun w h => List.mem_cons_of_mem _ (List.mem_append_left _ (List.mem_append_right _ h))
set_option maxHeartbeats 4000000 in
set_option maxRecDepth 100000 in
theorem c_X8_lower (l : Launch) (D : va_G) (y : Nat → ClassId) (fl : Nat) (a_t : Nat) (a_t_now : Nat) (a_t_tried : Nat) (a_t_kept : Nat) (a_t_saved : Nat) (a_t_line : Nat) (a_t_text : Nat) (a_t_told : Nat) (a_t_way : Nat) (t_undos : Int32) (t_isSaved : Int32) (t_lined : Int32) (t_length : Int32) (t_at : Int32) (t_order : Int32) (t_fault : Int32) (t_reason : Int32) (t_detail : Int32) (t_index : Int32) (t_answer : Int32) (t_thrown : Int32) (t_went : Int32) (t_fell : Int32) (t_now : Nat → Int32) (p1 : Int32) (p2 : Int32) (r : Int32) (hF : F_X8_lower fl t_now p1 p2 = some r) : Met l yX8_lower wsX8_lower (rmq 1 21) (rdP D y [(a_t, .inr (12, [.ref a_t_now, .ref a_t_tried, .ref a_t_kept, .int t_undos, .ref a_t_saved, .int t_isSaved, .ref a_t_line, .int t_lined, .ref a_t_text, .int t_length, .int t_at, .int t_order, .ref a_t_told, .int t_fault, .int t_reason, .int t_detail, .int t_index, .int t_answer, .int t_thrown, .ref a_t_way, .int t_went, .int t_fell])), (a_t_now, .inl (y 0, 77, .inl t_now))] [.ref a_t, .int p1, .int p2]) (QcRead r) 0 0 (fun _ => False) := by
  refine Met.ofW (cc := cX8_lower) (maxL := 4) (ret := (some .int)) (by decide) rfl ?_
  intro p e s m args below meth c s₁ B hml hv
  obtain ⟨hav, hP, hK⟩ := hv
  have hx := B.exec
  have hb := B.bytes
  have hr := B.returns
  have hts := atoms_spec (ws := wsX8_lower) B.pre
  have hown : s.vm.findClass RX8 = some m.cls := findClass_of_methodNamed B.named
  have hlocks := B.notSynchronized
  refine W_q (R1 := (rmq 1 21)) rfl (fun Q0 hQ0 => ?_)
  unfold F_X8_lower at hF
  have k_2 : ∀ (n : Nat) (x1 : Int32) (x2 : Int32) (x3 : Int32), F_X8_lower_2 fl t_now n x1 x2 x3 = some r → ∀ (ls : Array Slot), lv_has ls 4 [(0, .ref a_t), (1, .int x1), (2, .int x2), (3, .int x3)] → W p l e (rmq 1 21) s m args below meth c s.heap [] 0 0 Q0 (F0 m 2 ls []) := by
    intro n
    induction n with
    | zero => intro x1 x2 x3 hF; rw [F_X8_lower_2] at hF; cases hF
    | succ n ih =>
      intro x1 x2 x3 hF ls hl
      rw [F_X8_lower_2] at hF
      refine lv_iload_n hx hb dX8_lower_2 rfl (lv_at hl 3 rfl) ?_
      refine lv_aload_n hx hb dX8_lower_3 rfl (lv_at hl 0 rfl) ?_
      refine va_get (D := D) (ci := 12) (v := .ref a_t_now) (C := RX8) (T := TX8) (N := 22) hx hb hts iX8_lower_X8 hown hK hP 0 rfl rfl 0 (by decide) (hts (.fieldLink RX8 9 "SkipArchiveModel" "now" "[I") (List.mem_of_getElem? (i := 1) rfl)) (fun _ h9 => h9) rfl dX8_lower_4 ?_
      refine lv_iconst (v := 0) hx hb dX8_lower_7 (by decide) ?_
      obtain ⟨g_8, hF⟩ := gi_i hF
      refine va_iald hx hb hK hP 1 0 rfl rfl g_8 dX8_lower_8 ?_
      refine lv_icmp_ge (tgt := 40) hx hb dX8_lower_9 (by decide) (fun c_9 => ?_) (fun c_9 => ?_)
      · have hF := ift hF c_9
        refine lv_iload_n hx hb dX8_lower_40 rfl (lv_at hl 3 rfl) ?_
        obtain e0_41 := inj1 hF
        rw [← e0_41] at hQ0
        rw [hQ0]
        exact W.iret (v := x3) hx hb hr (fun t ht hW => ⟨rfl, ht⟩) (fun _ h => nomatch h) dX8_lower_41
      · have hF := iff_ hF c_9
        refine lv_aload_n hx hb dX8_lower_12 rfl (lv_at hl 0 rfl) ?_
        refine lv_iload_n hx hb dX8_lower_13 rfl (lv_at hl 3 rfl) ?_
        obtain ⟨r_14, hq_14, hF⟩ := bn_i hF
        refine cr_V (As := [.int x3]) (rest := []) ⟨hx, hb, hml, hown, hts⟩ (c_X8_key l D y fl a_t a_t_now a_t_tried a_t_kept a_t_saved a_t_line a_t_text a_t_told a_t_way t_undos t_isSaved t_lined t_length t_at t_order t_fault t_reason t_detail t_index t_answer t_thrown t_went t_fell t_now x3 r_14 hq_14) (cwV 1 hts gX8_lower_X8_key rfl rfl rfl (by decide +kernel) ⟨Nat.le_of_ble_eq_true rfl, Nat.le_of_ble_eq_true rfl⟩) hK hP [0, 1] rfl rfl rfl rfl hl.1 rfl (Nat.le_of_ble_eq_true rfl) dX8_lower_14 ⟨Nat.le_of_ble_eq_true rfl, Nat.le_of_ble_eq_true rfl⟩ ?_
        refine lv_iload_n hx hb dX8_lower_17 rfl (lv_at hl 1 rfl) ?_
        refine lv_icmp_lt (tgt := 34) hx hb dX8_lower_18 (by decide) (fun c_18 => ?_) (fun c_18 => ?_)
        · have hF := ift hF c_18
          refine lv_iinc (v := x3 + (1 : Int32)) (lv' := [(3, .int (x3 + (1 : Int32))), (0, .ref a_t), (1, .int x1), (2, .int x2)]) hx hb dX8_lower_34 hl (k := 3) rfl rfl (by decide) rfl (fun ls hl => ?_)
          refine lv_goto (tgt := 2) hx hb dX8_lower_37 (by decide) ?_
          exact ih x1 x2 (x3 + (1 : Int32)) hF ls (lv_sub hl [1, 2, 3, 0] rfl)
        · have hF := iff_ hF c_18
          refine lv_iload_n hx hb dX8_lower_21 rfl (lv_at hl 2 rfl) ?_
          refine lv_if_eq (tgt := 40) hx hb dX8_lower_22 (by decide) (fun c_22 => ?_) (fun c_22 => ?_)
          · have hF := ift hF c_22
            refine lv_iload_n hx hb dX8_lower_40 rfl (lv_at hl 3 rfl) ?_
            obtain e0_41 := inj1 hF
            rw [← e0_41] at hQ0
            rw [hQ0]
            exact W.iret (v := x3) hx hb hr (fun t ht hW => ⟨rfl, ht⟩) (fun _ h => nomatch h) dX8_lower_41
          · have hF := iff_ hF c_22
            refine lv_aload_n hx hb dX8_lower_25 rfl (lv_at hl 0 rfl) ?_
            refine lv_iload_n hx hb dX8_lower_26 rfl (lv_at hl 3 rfl) ?_
            obtain ⟨r_27, hq_27, hF⟩ := bn_i hF
            refine cr_V (As := [.int x3]) (rest := []) ⟨hx, hb, hml, hown, hts⟩ (c_X8_key l D y fl a_t a_t_now a_t_tried a_t_kept a_t_saved a_t_line a_t_text a_t_told a_t_way t_undos t_isSaved t_lined t_length t_at t_order t_fault t_reason t_detail t_index t_answer t_thrown t_went t_fell t_now x3 r_27 hq_27) (cwV 1 hts gX8_lower_X8_key rfl rfl rfl (by decide +kernel) ⟨Nat.le_of_ble_eq_true rfl, Nat.le_of_ble_eq_true rfl⟩) hK hP [0, 1] rfl rfl rfl rfl hl.1 rfl (Nat.le_of_ble_eq_true rfl) dX8_lower_27 ⟨Nat.le_of_ble_eq_true rfl, Nat.le_of_ble_eq_true rfl⟩ ?_
            refine lv_iload_n hx hb dX8_lower_30 rfl (lv_at hl 1 rfl) ?_
            refine lv_icmp_ne (tgt := 40) hx hb dX8_lower_31 (by decide) (fun c_31 => ?_) (fun c_31 => ?_)
            · have hF := iff_ hF c_31
              refine lv_iload_n hx hb dX8_lower_40 rfl (lv_at hl 3 rfl) ?_
              obtain e0_41 := inj1 hF
              rw [← e0_41] at hQ0
              rw [hQ0]
              exact W.iret (v := x3) hx hb hr (fun t ht hW => ⟨rfl, ht⟩) (fun _ h => nomatch h) dX8_lower_41
            · have hF := ift hF c_31
              refine lv_iinc (v := x3 + (1 : Int32)) (lv' := [(3, .int (x3 + (1 : Int32))), (0, .ref a_t), (1, .int x1), (2, .int x2)]) hx hb dX8_lower_34 hl (k := 3) rfl rfl (by decide) rfl (fun ls hl => ?_)
              refine lv_goto (tgt := 2) hx hb dX8_lower_37 (by decide) ?_
              exact ih x1 x2 (x3 + (1 : Int32)) hF ls (lv_sub hl [1, 2, 3, 0] rfl)
  refine W_entry hav (Nat.le_of_ble_eq_true rfl) (fun ls hl => ?_)
  have hl : lv_has ls 4 [(0, .ref a_t), (1, .int p1), (2, .int p2)] := hl
  refine lv_iconst (v := 0) hx hb dX8_lower_0 (by decide) ?_
  refine lv_istore_n (lv' := [(3, .int (0 : Int32)), (0, .ref a_t), (1, .int p1), (2, .int p2)]) hx hb dX8_lower_1 rfl hl (by decide) rfl (fun ls hl => ?_)
  exact k_2 fl p1 p2 (0 : Int32) hF ls (lv_sub hl [1, 2, 3, 0] rfl)
def F_X8_find (fl : Nat) (t_now : Nat → Int32) (p1 : Int32) : Option (Int32) := bn (F_X8_lower fl t_now p1 (0 : Int32)) fun r_3 => gi (0 : Int32) 77 (if (t_now (0 : Int32).toNatClampNeg) ≤ r_3 then (some (-1 : Int32)) else (bn (F_X8_key fl t_now r_3) fun r_19 => if r_19 = p1 then (some r_3) else (some (-1 : Int32))))
theorem iX8_find_X8 : ∀ w ∈ u_ws RX8 TX8 22, w ∈ wsX8_find := fun w h => List.mem_cons_of_mem _ (List.mem_append_left _ (List.mem_append_right _ h))
set_option maxHeartbeats 4000000 in
set_option maxRecDepth 100000 in
theorem c_X8_find (l : Launch) (D : va_G) (y : Nat → ClassId) (fl : Nat) (a_t : Nat) (a_t_now : Nat) (a_t_tried : Nat) (a_t_kept : Nat) (a_t_saved : Nat) (a_t_line : Nat) (a_t_text : Nat) (a_t_told : Nat) (a_t_way : Nat) (t_undos : Int32) (t_isSaved : Int32) (t_lined : Int32) (t_length : Int32) (t_at : Int32) (t_order : Int32) (t_fault : Int32) (t_reason : Int32) (t_detail : Int32) (t_index : Int32) (t_answer : Int32) (t_thrown : Int32) (t_went : Int32) (t_fell : Int32) (t_now : Nat → Int32) (p1 : Int32) (r : Int32) (hF : F_X8_find fl t_now p1 = some r) : Met l yX8_find wsX8_find (rmq 2 44) (rdP D y [(a_t, .inr (12, [.ref a_t_now, .ref a_t_tried, .ref a_t_kept, .int t_undos, .ref a_t_saved, .int t_isSaved, .ref a_t_line, .int t_lined, .ref a_t_text, .int t_length, .int t_at, .int t_order, .ref a_t_told, .int t_fault, .int t_reason, .int t_detail, .int t_index, .int t_answer, .int t_thrown, .ref a_t_way, .int t_went, .int t_fell])), (a_t_now, .inl (y 0, 77, .inl t_now))] [.ref a_t, .int p1]) (QcRead r) 0 0 (fun _ => False) := by
  refine Met.ofW (cc := cX8_find) (maxL := 3) (ret := (some .int)) (by decide) rfl ?_
  intro p e s m args below meth c s₁ B hml hv
  obtain ⟨hav, hP, hK⟩ := hv
  have hx := B.exec
  have hb := B.bytes
  have hr := B.returns
  have hts := atoms_spec (ws := wsX8_find) B.pre
  have hown : s.vm.findClass RX8 = some m.cls := findClass_of_methodNamed B.named
  have hlocks := B.notSynchronized
  refine W_q (R1 := (rmq 2 44)) rfl (fun Q0 hQ0 => ?_)
  unfold F_X8_find at hF
  refine W_entry hav (Nat.le_of_ble_eq_true rfl) (fun ls hl => ?_)
  have hl : lv_has ls 3 [(0, .ref a_t), (1, .int p1)] := hl
  refine lv_aload_n hx hb dX8_find_0 rfl (lv_at hl 0 rfl) ?_
  refine lv_iload_n hx hb dX8_find_1 rfl (lv_at hl 1 rfl) ?_
  refine lv_iconst (v := 0) hx hb dX8_find_2 (by decide) ?_
  obtain ⟨r_3, hq_3, hF⟩ := bn_i hF
  refine cr_V (As := [.int p1, .int (0 : Int32)]) (rest := []) ⟨hx, hb, hml, hown, hts⟩ (c_X8_lower l D y fl a_t a_t_now a_t_tried a_t_kept a_t_saved a_t_line a_t_text a_t_told a_t_way t_undos t_isSaved t_lined t_length t_at t_order t_fault t_reason t_detail t_index t_answer t_thrown t_went t_fell t_now p1 (0 : Int32) r_3 hq_3) (cwV 2 hts gX8_find_X8_lower rfl rfl rfl (by decide +kernel) ⟨Nat.le_of_ble_eq_true rfl, Nat.le_of_ble_eq_true rfl⟩) hK hP [0, 1] rfl rfl rfl rfl hl.1 rfl (Nat.le_of_ble_eq_true rfl) dX8_find_3 ⟨Nat.le_of_ble_eq_true rfl, Nat.le_of_ble_eq_true rfl⟩ ?_
  refine lv_istore_n (lv' := [(2, .int r_3), (0, .ref a_t), (1, .int p1)]) hx hb dX8_find_6 rfl hl (by decide) rfl (fun ls hl => ?_)
  refine lv_iload_n hx hb dX8_find_7 rfl (lv_at hl 0 rfl) ?_
  refine lv_aload_n hx hb dX8_find_8 rfl (lv_at hl 1 rfl) ?_
  refine va_get (D := D) (ci := 12) (v := .ref a_t_now) (C := RX8) (T := TX8) (N := 22) hx hb hts iX8_find_X8 hown hK hP 0 rfl rfl 0 (by decide) (hts (.fieldLink RX8 9 "SkipArchiveModel" "now" "[I") (List.mem_of_getElem? (i := 1) rfl)) (fun _ h9 => h9) rfl dX8_find_9 ?_
  refine lv_iconst (v := 0) hx hb dX8_find_12 (by decide) ?_
  obtain ⟨g_13, hF⟩ := gi_i hF
  refine va_iald hx hb hK hP 1 0 rfl rfl g_13 dX8_find_13 ?_
  refine lv_icmp_ge (tgt := 30) hx hb dX8_find_14 (by decide) (fun c_14 => ?_) (fun c_14 => ?_)
  · have hF := ift hF c_14
    refine lv_iconst (v := -1) hx hb dX8_find_30 (by decide) ?_
    obtain e0_31 := inj1 hF
    rw [← e0_31] at hQ0
    rw [hQ0]
    exact W.iret (v := (-1 : Int32)) hx hb hr (fun t ht hW => ⟨rfl, ht⟩) (fun _ h => nomatch h) dX8_find_31
  · have hF := iff_ hF c_14
    refine lv_aload_n hx hb dX8_find_17 rfl (lv_at hl 1 rfl) ?_
    refine lv_iload_n hx hb dX8_find_18 rfl (lv_at hl 0 rfl) ?_
    obtain ⟨r_19, hq_19, hF⟩ := bn_i hF
    refine cr_V (As := [.int r_3]) (rest := []) ⟨hx, hb, hml, hown, hts⟩ (c_X8_key l D y fl a_t a_t_now a_t_tried a_t_kept a_t_saved a_t_line a_t_text a_t_told a_t_way t_undos t_isSaved t_lined t_length t_at t_order t_fault t_reason t_detail t_index t_answer t_thrown t_went t_fell t_now r_3 r_19 hq_19) (cwV 1 hts gX8_find_X8_key rfl rfl rfl (by decide +kernel) ⟨Nat.le_of_ble_eq_true rfl, Nat.le_of_ble_eq_true rfl⟩) hK hP [0, 1] rfl rfl rfl rfl hl.1 rfl (Nat.le_of_ble_eq_true rfl) dX8_find_19 ⟨Nat.le_of_ble_eq_true rfl, Nat.le_of_ble_eq_true rfl⟩ ?_
    refine lv_iload_n hx hb dX8_find_22 rfl (lv_at hl 2 rfl) ?_
    refine lv_icmp_ne (tgt := 30) hx hb dX8_find_23 (by decide) (fun c_23 => ?_) (fun c_23 => ?_)
    · have hF := iff_ hF c_23
      refine lv_iconst (v := -1) hx hb dX8_find_30 (by decide) ?_
      obtain e0_31 := inj1 hF
      rw [← e0_31] at hQ0
      rw [hQ0]
      exact W.iret (v := (-1 : Int32)) hx hb hr (fun t ht hW => ⟨rfl, ht⟩) (fun _ h => nomatch h) dX8_find_31
    · have hF := ift hF c_23
      refine lv_iload_n hx hb dX8_find_26 rfl (lv_at hl 0 rfl) ?_
      refine lv_goto (tgt := 31) hx hb dX8_find_27 (by decide) ?_
      obtain e0_31 := inj1 hF
      rw [← e0_31] at hQ0
      rw [hQ0]
      exact W.iret (v := r_3) hx hb hr (fun t ht hW => ⟨rfl, ht⟩) (fun _ h => nomatch h) dX8_find_31
def F_X8_sizeOf_4 (fl : Nat) (t_now : Nat → Int32) : Nat → Int32 → Int32 → Int32 → Option (Int32)
  | 0, _, _, _ => none
  | n + 1, x1, x2, x3 => gi (0 : Int32) 77 (if (t_now (0 : Int32).toNatClampNeg) ≤ x3 then (some x2) else (bn (F_X8_rungs fl t_now x3) fun r_16 => if r_16 ≤ x1 then (F_X8_sizeOf_4 fl t_now n x1 x2 (x3 + (1 : Int32))) else (F_X8_sizeOf_4 fl t_now n x1 (x2 + (1 : Int32)) (x3 + (1 : Int32)))))
def F_X8_sizeOf (fl : Nat) (t_now : Nat → Int32) (p1 : Int32) : Option (Int32) := F_X8_sizeOf_4 fl t_now fl p1 (0 : Int32) (0 : Int32)
theorem iX8_sizeOf_X8 : ∀ w ∈ u_ws RX8 TX8 22, w ∈ wsX8_sizeOf := fun w h => List.mem_cons_of_mem _ (List.mem_append_left _ (List.mem_append_right _ h))
set_option maxHeartbeats 4000000 in
set_option maxRecDepth 100000 in
theorem c_X8_sizeOf (l : Launch) (D : va_G) (y : Nat → ClassId) (fl : Nat) (a_t : Nat) (a_t_now : Nat) (a_t_tried : Nat) (a_t_kept : Nat) (a_t_saved : Nat) (a_t_line : Nat) (a_t_text : Nat) (a_t_told : Nat) (a_t_way : Nat) (t_undos : Int32) (t_isSaved : Int32) (t_lined : Int32) (t_length : Int32) (t_at : Int32) (t_order : Int32) (t_fault : Int32) (t_reason : Int32) (t_detail : Int32) (t_index : Int32) (t_answer : Int32) (t_thrown : Int32) (t_went : Int32) (t_fell : Int32) (t_now : Nat → Int32) (p1 : Int32) (r : Int32) (hF : F_X8_sizeOf fl t_now p1 = some r) : Met l yX8_sizeOf wsX8_sizeOf (rmq 1 21) (rdP D y [(a_t, .inr (12, [.ref a_t_now, .ref a_t_tried, .ref a_t_kept, .int t_undos, .ref a_t_saved, .int t_isSaved, .ref a_t_line, .int t_lined, .ref a_t_text, .int t_length, .int t_at, .int t_order, .ref a_t_told, .int t_fault, .int t_reason, .int t_detail, .int t_index, .int t_answer, .int t_thrown, .ref a_t_way, .int t_went, .int t_fell])), (a_t_now, .inl (y 0, 77, .inl t_now))] [.ref a_t, .int p1]) (QcRead r) 0 0 (fun _ => False) := by
  refine Met.ofW (cc := cX8_sizeOf) (maxL := 4) (ret := (some .int)) (by decide) rfl ?_
  intro p e s m args below meth c s₁ B hml hv
  obtain ⟨hav, hP, hK⟩ := hv
  have hx := B.exec
  have hb := B.bytes
  have hr := B.returns
  have hts := atoms_spec (ws := wsX8_sizeOf) B.pre
  have hown : s.vm.findClass RX8 = some m.cls := findClass_of_methodNamed B.named
  have hlocks := B.notSynchronized
  refine W_q (R1 := (rmq 1 21)) rfl (fun Q0 hQ0 => ?_)
  unfold F_X8_sizeOf at hF
  have k_4 : ∀ (n : Nat) (x1 : Int32) (x2 : Int32) (x3 : Int32), F_X8_sizeOf_4 fl t_now n x1 x2 x3 = some r → ∀ (ls : Array Slot), lv_has ls 4 [(0, .ref a_t), (1, .int x1), (2, .int x2), (3, .int x3)] → W p l e (rmq 1 21) s m args below meth c s.heap [] 0 0 Q0 (F0 m 4 ls []) := by
    intro n
    induction n with
    | zero => intro x1 x2 x3 hF; rw [F_X8_sizeOf_4] at hF; cases hF
    | succ n ih =>
      intro x1 x2 x3 hF ls hl
      rw [F_X8_sizeOf_4] at hF
      refine lv_iload_n hx hb dX8_sizeOf_4 rfl (lv_at hl 3 rfl) ?_
      refine lv_aload_n hx hb dX8_sizeOf_5 rfl (lv_at hl 0 rfl) ?_
      refine va_get (D := D) (ci := 12) (v := .ref a_t_now) (C := RX8) (T := TX8) (N := 22) hx hb hts iX8_sizeOf_X8 hown hK hP 0 rfl rfl 0 (by decide) (hts (.fieldLink RX8 9 "SkipArchiveModel" "now" "[I") (List.mem_of_getElem? (i := 1) rfl)) (fun _ h9 => h9) rfl dX8_sizeOf_6 ?_
      refine lv_iconst (v := 0) hx hb dX8_sizeOf_9 (by decide) ?_
      obtain ⟨g_10, hF⟩ := gi_i hF
      refine va_iald hx hb hK hP 1 0 rfl rfl g_10 dX8_sizeOf_10 ?_
      refine lv_icmp_ge (tgt := 32) hx hb dX8_sizeOf_11 (by decide) (fun c_11 => ?_) (fun c_11 => ?_)
      · have hF := ift hF c_11
        refine lv_iload_n hx hb dX8_sizeOf_32 rfl (lv_at hl 2 rfl) ?_
        obtain e0_33 := inj1 hF
        rw [← e0_33] at hQ0
        rw [hQ0]
        exact W.iret (v := x2) hx hb hr (fun t ht hW => ⟨rfl, ht⟩) (fun _ h => nomatch h) dX8_sizeOf_33
      · have hF := iff_ hF c_11
        refine lv_aload_n hx hb dX8_sizeOf_14 rfl (lv_at hl 0 rfl) ?_
        refine lv_iload_n hx hb dX8_sizeOf_15 rfl (lv_at hl 3 rfl) ?_
        obtain ⟨r_16, hq_16, hF⟩ := bn_i hF
        refine cr_V (As := [.int x3]) (rest := []) ⟨hx, hb, hml, hown, hts⟩ (c_X8_rungs l D y fl a_t a_t_now a_t_tried a_t_kept a_t_saved a_t_line a_t_text a_t_told a_t_way t_undos t_isSaved t_lined t_length t_at t_order t_fault t_reason t_detail t_index t_answer t_thrown t_went t_fell t_now x3 r_16 hq_16) (cwV 1 hts gX8_sizeOf_X8_rungs rfl rfl rfl (by decide +kernel) ⟨Nat.le_of_ble_eq_true rfl, Nat.le_of_ble_eq_true rfl⟩) hK hP [0, 1] rfl rfl rfl rfl hl.1 rfl (Nat.le_of_ble_eq_true rfl) dX8_sizeOf_16 ⟨Nat.le_of_ble_eq_true rfl, Nat.le_of_ble_eq_true rfl⟩ ?_
        refine lv_iload_n hx hb dX8_sizeOf_19 rfl (lv_at hl 1 rfl) ?_
        refine lv_icmp_le (tgt := 26) hx hb dX8_sizeOf_20 (by decide) (fun c_20 => ?_) (fun c_20 => ?_)
        · have hF := ift hF c_20
          refine lv_iinc (v := x3 + (1 : Int32)) (lv' := [(3, .int (x3 + (1 : Int32))), (0, .ref a_t), (1, .int x1), (2, .int x2)]) hx hb dX8_sizeOf_26 hl (k := 3) rfl rfl (by decide) rfl (fun ls hl => ?_)
          refine lv_goto (tgt := 4) hx hb dX8_sizeOf_29 (by decide) ?_
          exact ih x1 x2 (x3 + (1 : Int32)) hF ls (lv_sub hl [1, 2, 3, 0] rfl)
        · have hF := iff_ hF c_20
          refine lv_iinc (v := x2 + (1 : Int32)) (lv' := [(2, .int (x2 + (1 : Int32))), (0, .ref a_t), (1, .int x1), (3, .int x3)]) hx hb dX8_sizeOf_23 hl (k := 2) rfl rfl (by decide) rfl (fun ls hl => ?_)
          refine lv_iinc (v := x3 + (1 : Int32)) (lv' := [(3, .int (x3 + (1 : Int32))), (2, .int (x2 + (1 : Int32))), (0, .ref a_t), (1, .int x1)]) hx hb dX8_sizeOf_26 hl (k := 3) rfl rfl (by decide) rfl (fun ls hl => ?_)
          refine lv_goto (tgt := 4) hx hb dX8_sizeOf_29 (by decide) ?_
          exact ih x1 (x2 + (1 : Int32)) (x3 + (1 : Int32)) hF ls (lv_sub hl [2, 3, 1, 0] rfl)
  refine W_entry hav (Nat.le_of_ble_eq_true rfl) (fun ls hl => ?_)
  have hl : lv_has ls 4 [(0, .ref a_t), (1, .int p1)] := hl
  refine lv_iconst (v := 0) hx hb dX8_sizeOf_0 (by decide) ?_
  refine lv_istore_n (lv' := [(2, .int (0 : Int32)), (0, .ref a_t), (1, .int p1)]) hx hb dX8_sizeOf_1 rfl hl (by decide) rfl (fun ls hl => ?_)
  refine lv_iconst (v := 0) hx hb dX8_sizeOf_2 (by decide) ?_
  refine lv_istore_n (lv' := [(3, .int (0 : Int32)), (2, .int (0 : Int32)), (0, .ref a_t), (1, .int p1)]) hx hb dX8_sizeOf_3 rfl hl (by decide) rfl (fun ls hl => ?_)
  exact k_4 fl p1 (0 : Int32) (0 : Int32) hF ls (lv_sub hl [2, 3, 1, 0] rfl)
def F_X8_next_4 (fl : Nat) (t_now : Nat → Int32) : Nat → Int32 → Int32 → Int32 → Option (Int32)
  | 0, _, _, _ => none
  | n + 1, x1, x2, x3 => gi (0 : Int32) 77 (if (t_now (0 : Int32).toNatClampNeg) ≤ x3 then (some x3) else (bn (F_X8_rungs fl t_now x3) fun r_16 => if x2 < r_16 then (some x3) else (F_X8_next_4 fl t_now n x1 x2 (x3 + (1 : Int32)))))
def F_X8_next (fl : Nat) (t_now : Nat → Int32) (p1 : Int32) (p2 : Int32) : Option (Int32) := F_X8_next_4 fl t_now fl p1 p2 (p1 + (1 : Int32))
theorem iX8_next_X8 : ∀ w ∈ u_ws RX8 TX8 22, w ∈ wsX8_next := fun w h => List.mem_cons_of_mem _ (List.mem_append_left _ (List.mem_append_right _ h))
set_option maxHeartbeats 4000000 in
set_option maxRecDepth 100000 in
theorem c_X8_next (l : Launch) (D : va_G) (y : Nat → ClassId) (fl : Nat) (a_t : Nat) (a_t_now : Nat) (a_t_tried : Nat) (a_t_kept : Nat) (a_t_saved : Nat) (a_t_line : Nat) (a_t_text : Nat) (a_t_told : Nat) (a_t_way : Nat) (t_undos : Int32) (t_isSaved : Int32) (t_lined : Int32) (t_length : Int32) (t_at : Int32) (t_order : Int32) (t_fault : Int32) (t_reason : Int32) (t_detail : Int32) (t_index : Int32) (t_answer : Int32) (t_thrown : Int32) (t_went : Int32) (t_fell : Int32) (t_now : Nat → Int32) (p1 : Int32) (p2 : Int32) (r : Int32) (hF : F_X8_next fl t_now p1 p2 = some r) : Met l yX8_next wsX8_next (rmq 1 21) (rdP D y [(a_t, .inr (12, [.ref a_t_now, .ref a_t_tried, .ref a_t_kept, .int t_undos, .ref a_t_saved, .int t_isSaved, .ref a_t_line, .int t_lined, .ref a_t_text, .int t_length, .int t_at, .int t_order, .ref a_t_told, .int t_fault, .int t_reason, .int t_detail, .int t_index, .int t_answer, .int t_thrown, .ref a_t_way, .int t_went, .int t_fell])), (a_t_now, .inl (y 0, 77, .inl t_now))] [.ref a_t, .int p1, .int p2]) (QcRead r) 0 0 (fun _ => False) := by
  refine Met.ofW (cc := cX8_next) (maxL := 4) (ret := (some .int)) (by decide) rfl ?_
  intro p e s m args below meth c s₁ B hml hv
  obtain ⟨hav, hP, hK⟩ := hv
  have hx := B.exec
  have hb := B.bytes
  have hr := B.returns
  have hts := atoms_spec (ws := wsX8_next) B.pre
  have hown : s.vm.findClass RX8 = some m.cls := findClass_of_methodNamed B.named
  have hlocks := B.notSynchronized
  refine W_q (R1 := (rmq 1 21)) rfl (fun Q0 hQ0 => ?_)
  unfold F_X8_next at hF
  have k_4 : ∀ (n : Nat) (x1 : Int32) (x2 : Int32) (x3 : Int32), F_X8_next_4 fl t_now n x1 x2 x3 = some r → ∀ (ls : Array Slot), lv_has ls 4 [(0, .ref a_t), (1, .int x1), (2, .int x2), (3, .int x3)] → W p l e (rmq 1 21) s m args below meth c s.heap [] 0 0 Q0 (F0 m 4 ls []) := by
    intro n
    induction n with
    | zero => intro x1 x2 x3 hF; rw [F_X8_next_4] at hF; cases hF
    | succ n ih =>
      intro x1 x2 x3 hF ls hl
      rw [F_X8_next_4] at hF
      refine lv_iload_n hx hb dX8_next_4 rfl (lv_at hl 3 rfl) ?_
      refine lv_aload_n hx hb dX8_next_5 rfl (lv_at hl 0 rfl) ?_
      refine va_get (D := D) (ci := 12) (v := .ref a_t_now) (C := RX8) (T := TX8) (N := 22) hx hb hts iX8_next_X8 hown hK hP 0 rfl rfl 0 (by decide) (hts (.fieldLink RX8 9 "SkipArchiveModel" "now" "[I") (List.mem_of_getElem? (i := 1) rfl)) (fun _ h9 => h9) rfl dX8_next_6 ?_
      refine lv_iconst (v := 0) hx hb dX8_next_9 (by decide) ?_
      obtain ⟨g_10, hF⟩ := gi_i hF
      refine va_iald hx hb hK hP 1 0 rfl rfl g_10 dX8_next_10 ?_
      refine lv_icmp_ge (tgt := 29) hx hb dX8_next_11 (by decide) (fun c_11 => ?_) (fun c_11 => ?_)
      · have hF := ift hF c_11
        refine lv_iload_n hx hb dX8_next_29 rfl (lv_at hl 3 rfl) ?_
        obtain e0_30 := inj1 hF
        rw [← e0_30] at hQ0
        rw [hQ0]
        exact W.iret (v := x3) hx hb hr (fun t ht hW => ⟨rfl, ht⟩) (fun _ h => nomatch h) dX8_next_30
      · have hF := iff_ hF c_11
        refine lv_aload_n hx hb dX8_next_14 rfl (lv_at hl 0 rfl) ?_
        refine lv_iload_n hx hb dX8_next_15 rfl (lv_at hl 3 rfl) ?_
        obtain ⟨r_16, hq_16, hF⟩ := bn_i hF
        refine cr_V (As := [.int x3]) (rest := []) ⟨hx, hb, hml, hown, hts⟩ (c_X8_rungs l D y fl a_t a_t_now a_t_tried a_t_kept a_t_saved a_t_line a_t_text a_t_told a_t_way t_undos t_isSaved t_lined t_length t_at t_order t_fault t_reason t_detail t_index t_answer t_thrown t_went t_fell t_now x3 r_16 hq_16) (cwV 1 hts gX8_next_X8_rungs rfl rfl rfl (by decide +kernel) ⟨Nat.le_of_ble_eq_true rfl, Nat.le_of_ble_eq_true rfl⟩) hK hP [0, 1] rfl rfl rfl rfl hl.1 rfl (Nat.le_of_ble_eq_true rfl) dX8_next_16 ⟨Nat.le_of_ble_eq_true rfl, Nat.le_of_ble_eq_true rfl⟩ ?_
        refine lv_iload_n hx hb dX8_next_19 rfl (lv_at hl 2 rfl) ?_
        refine lv_icmp_gt (tgt := 29) hx hb dX8_next_20 (by decide) (fun c_20 => ?_) (fun c_20 => ?_)
        · have hF := ift hF c_20
          refine lv_iload_n hx hb dX8_next_29 rfl (lv_at hl 3 rfl) ?_
          obtain e0_30 := inj1 hF
          rw [← e0_30] at hQ0
          rw [hQ0]
          exact W.iret (v := x3) hx hb hr (fun t ht hW => ⟨rfl, ht⟩) (fun _ h => nomatch h) dX8_next_30
        · have hF := iff_ hF c_20
          refine lv_iinc (v := x3 + (1 : Int32)) (lv' := [(3, .int (x3 + (1 : Int32))), (0, .ref a_t), (1, .int x1), (2, .int x2)]) hx hb dX8_next_23 hl (k := 3) rfl rfl (by decide) rfl (fun ls hl => ?_)
          refine lv_goto (tgt := 4) hx hb dX8_next_26 (by decide) ?_
          exact ih x1 x2 (x3 + (1 : Int32)) hF ls (lv_sub hl [1, 2, 3, 0] rfl)
  refine W_entry hav (Nat.le_of_ble_eq_true rfl) (fun ls hl => ?_)
  have hl : lv_has ls 4 [(0, .ref a_t), (1, .int p1), (2, .int p2)] := hl
  refine lv_iload_n hx hb dX8_next_0 rfl (lv_at hl 1 rfl) ?_
  refine lv_iconst (v := 1) hx hb dX8_next_1 (by decide) ?_
  refine lv_iadd hx hb dX8_next_2 ?_
  refine lv_istore_n (lv' := [(3, .int (p1 + (1 : Int32))), (0, .ref a_t), (1, .int p1), (2, .int p2)]) hx hb dX8_next_3 rfl hl (by decide) rfl (fun ls hl => ?_)
  exact k_4 fl p1 p2 (p1 + (1 : Int32)) hF ls (lv_sub hl [1, 2, 3, 0] rfl)
def F_X8_tosses (fl : Nat) (t_now : Nat → Int32) : Option (Int32 × (Nat → Int32)) := gi (1 : Int32) 77 (lt (((73 : Int32) * (t_now (1 : Int32).toNatClampNeg)) + (19 : Int32)) fun z_20 => gi (1 : Int32) 77 (gi (2 : Int32) 77 (gi (2 : Int32) 77 (gi (1 : Int32) 77 (lt (((upd (upd t_now (1 : Int32).toNatClampNeg (z_20 - z_20 / (10000 : Int32) * (10000 : Int32))) (2 : Int32).toNatClampNeg (((upd t_now (1 : Int32).toNatClampNeg (z_20 - z_20 / (10000 : Int32) * (10000 : Int32))) (2 : Int32).toNatClampNeg) + (1 : Int32))) (1 : Int32).toNatClampNeg) / (100 : Int32)) fun z_42 => if (z_42 - z_42 / (2 : Int32) * (2 : Int32)) = (1 : Int32) then (if (1 : Int32) = 0 then (some ((1 : Int32), upd (upd t_now (1 : Int32).toNatClampNeg (z_20 - z_20 / (10000 : Int32) * (10000 : Int32))) (2 : Int32).toNatClampNeg (((upd t_now (1 : Int32).toNatClampNeg (z_20 - z_20 / (10000 : Int32) * (10000 : Int32))) (2 : Int32).toNatClampNeg) + (1 : Int32)))) else (gi (3 : Int32) 77 (gi (3 : Int32) 77 (some ((1 : Int32), upd (upd (upd t_now (1 : Int32).toNatClampNeg (z_20 - z_20 / (10000 : Int32) * (10000 : Int32))) (2 : Int32).toNatClampNeg (((upd t_now (1 : Int32).toNatClampNeg (z_20 - z_20 / (10000 : Int32) * (10000 : Int32))) (2 : Int32).toNatClampNeg) + (1 : Int32))) (3 : Int32).toNatClampNeg (((upd (upd t_now (1 : Int32).toNatClampNeg (z_20 - z_20 / (10000 : Int32) * (10000 : Int32))) (2 : Int32).toNatClampNeg (((upd t_now (1 : Int32).toNatClampNeg (z_20 - z_20 / (10000 : Int32) * (10000 : Int32))) (2 : Int32).toNatClampNeg) + (1 : Int32))) (3 : Int32).toNatClampNeg) + (1 : Int32))))))) else (if (0 : Int32) = 0 then (some ((0 : Int32), upd (upd t_now (1 : Int32).toNatClampNeg (z_20 - z_20 / (10000 : Int32) * (10000 : Int32))) (2 : Int32).toNatClampNeg (((upd t_now (1 : Int32).toNatClampNeg (z_20 - z_20 / (10000 : Int32) * (10000 : Int32))) (2 : Int32).toNatClampNeg) + (1 : Int32)))) else (gi (3 : Int32) 77 (gi (3 : Int32) 77 (some ((0 : Int32), upd (upd (upd t_now (1 : Int32).toNatClampNeg (z_20 - z_20 / (10000 : Int32) * (10000 : Int32))) (2 : Int32).toNatClampNeg (((upd t_now (1 : Int32).toNatClampNeg (z_20 - z_20 / (10000 : Int32) * (10000 : Int32))) (2 : Int32).toNatClampNeg) + (1 : Int32))) (3 : Int32).toNatClampNeg (((upd (upd t_now (1 : Int32).toNatClampNeg (z_20 - z_20 / (10000 : Int32) * (10000 : Int32))) (2 : Int32).toNatClampNeg (((upd t_now (1 : Int32).toNatClampNeg (z_20 - z_20 / (10000 : Int32) * (10000 : Int32))) (2 : Int32).toNatClampNeg) + (1 : Int32))) (3 : Int32).toNatClampNeg) + (1 : Int32))))))))))))
theorem iX8_tosses_X8 : ∀ w ∈ u_ws RX8 TX8 22, w ∈ wsX8_tosses := fun w h => List.mem_cons_of_mem _ (List.mem_append_left _ (List.mem_append_right _ h))
set_option maxHeartbeats 4000000 in
set_option maxRecDepth 100000 in
theorem c_X8_tosses (l : Launch) (D : va_G) (y : Nat → ClassId) (fl : Nat) (sz : Nat) (a_t : Nat) (a_t_now : Nat) (a_t_tried : Nat) (a_t_kept : Nat) (a_t_saved : Nat) (a_t_line : Nat) (a_t_text : Nat) (a_t_told : Nat) (a_t_way : Nat) (t_undos : Int32) (t_isSaved : Int32) (t_lined : Int32) (t_length : Int32) (t_at : Int32) (t_order : Int32) (t_fault : Int32) (t_reason : Int32) (t_detail : Int32) (t_index : Int32) (t_answer : Int32) (t_thrown : Int32) (t_went : Int32) (t_fell : Int32) (t_now : Nat → Int32) (r : Int32) (t_now' : Nat → Int32) (hF : F_X8_tosses fl t_now = some (r, t_now')) : Met l yX8_tosses wsX8_tosses (rmq 0 0) (wrP D y [(a_t, .inr (12, [.ref a_t_now, .ref a_t_tried, .ref a_t_kept, .int t_undos, .ref a_t_saved, .int t_isSaved, .ref a_t_line, .int t_lined, .ref a_t_text, .int t_length, .int t_at, .int t_order, .ref a_t_told, .int t_fault, .int t_reason, .int t_detail, .int t_index, .int t_answer, .int t_thrown, .ref a_t_way, .int t_went, .int t_fell])), (a_t_now, .inl (y 0, 77, .inl t_now))] sz [.ref a_t]) (wQi D y r [(a_t, .inr (12, [.ref a_t_now, .ref a_t_tried, .ref a_t_kept, .int t_undos, .ref a_t_saved, .int t_isSaved, .ref a_t_line, .int t_lined, .ref a_t_text, .int t_length, .int t_at, .int t_order, .ref a_t_told, .int t_fault, .int t_reason, .int t_detail, .int t_index, .int t_answer, .int t_thrown, .ref a_t_way, .int t_went, .int t_fell])), (a_t_now, .inl (y 0, 77, .inl t_now'))] [(a_t, .inr (12, [.ref a_t_now, .ref a_t_tried, .ref a_t_kept, .int t_undos, .ref a_t_saved, .int t_isSaved, .ref a_t_line, .int t_lined, .ref a_t_text, .int t_length, .int t_at, .int t_order, .ref a_t_told, .int t_fault, .int t_reason, .int t_detail, .int t_index, .int t_answer, .int t_thrown, .ref a_t_way, .int t_went, .int t_fell])), (a_t_now, .inl (y 0, 77, .inl t_now))] sz) 0 0 (va_A [(a_t, .inr (12, [.ref a_t_now, .ref a_t_tried, .ref a_t_kept, .int t_undos, .ref a_t_saved, .int t_isSaved, .ref a_t_line, .int t_lined, .ref a_t_text, .int t_length, .int t_at, .int t_order, .ref a_t_told, .int t_fault, .int t_reason, .int t_detail, .int t_index, .int t_answer, .int t_thrown, .ref a_t_way, .int t_went, .int t_fell])), (a_t_now, .inl (y 0, 77, .inl t_now))] sz) := by
  refine Met.ofW (cc := cX8_tosses) (maxL := 2) (ret := (some .boolean)) (by decide) rfl ?_
  intro p e s m args below meth c s₁ B hml hv
  obtain ⟨hav, hsz, hP, hK, hD0⟩ := hv
  have hx := B.exec
  have hb := B.bytes
  have hr := B.returns
  have hts := atoms_spec (ws := wsX8_tosses) B.pre
  have hown : s.vm.findClass RX8 = some m.cls := findClass_of_methodNamed B.named
  have hlocks := B.notSynchronized
  subst hsz
  have hD := hD0.self (sz := s.heap.size)
  obtain ⟨A, hAe⟩ : ∃ A : Nat → Prop, va_A [(a_t, .inr (12, [.ref a_t_now, .ref a_t_tried, .ref a_t_kept, .int t_undos, .ref a_t_saved, .int t_isSaved, .ref a_t_line, .int t_lined, .ref a_t_text, .int t_length, .int t_at, .int t_order, .ref a_t_told, .int t_fault, .int t_reason, .int t_detail, .int t_index, .int t_answer, .int t_thrown, .ref a_t_way, .int t_went, .int t_fell])), (a_t_now, .inl (y 0, 77, .inl t_now))] s.heap.size = A := ⟨_, rfl⟩
  rw [hAe] at hD
  have hA : ∀ q, s.heap.size ≤ q → A q := fun q h => by rw [← hAe]; exact Or.inr h
  have hS : va_S A s.heap s.heap [] := va_S.rf
  refine W_q (R1 := (rmq 0 0)) rfl (fun Q0 hQ0 => ?_)
  unfold F_X8_tosses at hF
  refine W_entry hav (Nat.le_of_ble_eq_true rfl) (fun ls hl => ?_)
  have hl : lv_has ls 2 [(0, .ref a_t)] := hl
  refine lv_aload_n hx hb dX8_tosses_0 rfl (lv_at hl 0 rfl) ?_
  refine va_get (D := D) (ci := 12) (v := .ref a_t_now) (C := RX8) (T := TX8) (N := 22) hx hb hts iX8_tosses_X8 hown hK hP 0 rfl rfl 0 (by decide) (hts (.fieldLink RX8 9 "SkipArchiveModel" "now" "[I") (List.mem_of_getElem? (i := 1) rfl)) (fun _ h9 => h9) rfl dX8_tosses_1 ?_
  refine lv_iconst (v := 1) hx hb dX8_tosses_4 (by decide) ?_
  refine lv_bipush (v := 73) hx hb dX8_tosses_5 (by decide) ?_
  refine lv_aload_n hx hb dX8_tosses_7 rfl (lv_at hl 0 rfl) ?_
  refine va_get (D := D) (ci := 12) (v := .ref a_t_now) (C := RX8) (T := TX8) (N := 22) hx hb hts iX8_tosses_X8 hown hK hP 0 rfl rfl 0 (by decide) (hts (.fieldLink RX8 9 "SkipArchiveModel" "now" "[I") (List.mem_of_getElem? (i := 1) rfl)) (fun _ h9 => h9) rfl dX8_tosses_8 ?_
  refine lv_iconst (v := 1) hx hb dX8_tosses_11 (by decide) ?_
  obtain ⟨g_12, hF⟩ := gi_i hF
  refine va_iald hx hb hK hP 1 0 rfl rfl g_12 dX8_tosses_12 ?_
  refine lv_imul hx hb dX8_tosses_13 ?_
  refine lv_bipush (v := 19) hx hb dX8_tosses_14 (by decide) ?_
  refine lv_iadd hx hb dX8_tosses_16 ?_
  refine lv_sipush (v := 10000) hx hb dX8_tosses_17 (by decide) ?_
  refine s1_name (x := (((73 : Int32) * (t_now (1 : Int32).toNatClampNeg)) + (19 : Int32))) (fun z_20 ez_20 => ?_)
  have hF := lt_i hF ez_20
  refine lv_irem hx hb dX8_tosses_20 (by decide) ?_
  obtain ⟨g_21, hF⟩ := gi_i hF
  refine va_iast hx hb hK hP hD hS 1 0 rfl rfl g_21 dX8_tosses_21 (fun H locs hP hD hS => ?_)
  have hP : va_P D vwCl [(a_t, .inr (12, [.ref a_t_now, .ref a_t_tried, .ref a_t_kept, .int t_undos, .ref a_t_saved, .int t_isSaved, .ref a_t_line, .int t_lined, .ref a_t_text, .int t_length, .int t_at, .int t_order, .ref a_t_told, .int t_fault, .int t_reason, .int t_detail, .int t_index, .int t_answer, .int t_thrown, .ref a_t_way, .int t_went, .int t_fell])), (a_t_now, .inl (y 0, 77, .inl (upd t_now (1 : Int32).toNatClampNeg (z_20 - z_20 / (10000 : Int32) * (10000 : Int32)))))] H := hP
  have hD : va_D A [(a_t, .inr (12, [.ref a_t_now, .ref a_t_tried, .ref a_t_kept, .int t_undos, .ref a_t_saved, .int t_isSaved, .ref a_t_line, .int t_lined, .ref a_t_text, .int t_length, .int t_at, .int t_order, .ref a_t_told, .int t_fault, .int t_reason, .int t_detail, .int t_index, .int t_answer, .int t_thrown, .ref a_t_way, .int t_went, .int t_fell])), (a_t_now, .inl (y 0, 77, .inl (upd t_now (1 : Int32).toNatClampNeg (z_20 - z_20 / (10000 : Int32) * (10000 : Int32)))))] := hD
  refine lv_aload_n hx hb dX8_tosses_22 rfl (lv_at hl 0 rfl) ?_
  refine va_get (D := D) (ci := 12) (v := .ref a_t_now) (C := RX8) (T := TX8) (N := 22) hx hb hts iX8_tosses_X8 hown hK hP 0 rfl rfl 0 (by decide) (hts (.fieldLink RX8 9 "SkipArchiveModel" "now" "[I") (List.mem_of_getElem? (i := 1) rfl)) (fun _ h9 => h9) rfl dX8_tosses_23 ?_
  refine lv_iconst (v := 2) hx hb dX8_tosses_26 (by decide) ?_
  refine lv_dup2_11 hx hb dX8_tosses_27 rfl rfl ?_
  obtain ⟨g_28, hF⟩ := gi_i hF
  refine va_iald hx hb hK hP 1 0 rfl rfl g_28 dX8_tosses_28 ?_
  refine lv_iconst (v := 1) hx hb dX8_tosses_29 (by decide) ?_
  refine lv_iadd hx hb dX8_tosses_30 ?_
  obtain ⟨g_31, hF⟩ := gi_i hF
  refine va_iast hx hb hK hP hD hS 1 0 rfl rfl g_31 dX8_tosses_31 (fun H locs hP hD hS => ?_)
  have hP : va_P D vwCl [(a_t, .inr (12, [.ref a_t_now, .ref a_t_tried, .ref a_t_kept, .int t_undos, .ref a_t_saved, .int t_isSaved, .ref a_t_line, .int t_lined, .ref a_t_text, .int t_length, .int t_at, .int t_order, .ref a_t_told, .int t_fault, .int t_reason, .int t_detail, .int t_index, .int t_answer, .int t_thrown, .ref a_t_way, .int t_went, .int t_fell])), (a_t_now, .inl (y 0, 77, .inl (upd (upd t_now (1 : Int32).toNatClampNeg (z_20 - z_20 / (10000 : Int32) * (10000 : Int32))) (2 : Int32).toNatClampNeg (((upd t_now (1 : Int32).toNatClampNeg (z_20 - z_20 / (10000 : Int32) * (10000 : Int32))) (2 : Int32).toNatClampNeg) + (1 : Int32)))))] H := hP
  have hD : va_D A [(a_t, .inr (12, [.ref a_t_now, .ref a_t_tried, .ref a_t_kept, .int t_undos, .ref a_t_saved, .int t_isSaved, .ref a_t_line, .int t_lined, .ref a_t_text, .int t_length, .int t_at, .int t_order, .ref a_t_told, .int t_fault, .int t_reason, .int t_detail, .int t_index, .int t_answer, .int t_thrown, .ref a_t_way, .int t_went, .int t_fell])), (a_t_now, .inl (y 0, 77, .inl (upd (upd t_now (1 : Int32).toNatClampNeg (z_20 - z_20 / (10000 : Int32) * (10000 : Int32))) (2 : Int32).toNatClampNeg (((upd t_now (1 : Int32).toNatClampNeg (z_20 - z_20 / (10000 : Int32) * (10000 : Int32))) (2 : Int32).toNatClampNeg) + (1 : Int32)))))] := hD
  refine lv_aload_n hx hb dX8_tosses_32 rfl (lv_at hl 0 rfl) ?_
  refine va_get (D := D) (ci := 12) (v := .ref a_t_now) (C := RX8) (T := TX8) (N := 22) hx hb hts iX8_tosses_X8 hown hK hP 0 rfl rfl 0 (by decide) (hts (.fieldLink RX8 9 "SkipArchiveModel" "now" "[I") (List.mem_of_getElem? (i := 1) rfl)) (fun _ h9 => h9) rfl dX8_tosses_33 ?_
  refine lv_iconst (v := 1) hx hb dX8_tosses_36 (by decide) ?_
  obtain ⟨g_37, hF⟩ := gi_i hF
  refine va_iald hx hb hK hP 1 0 rfl rfl g_37 dX8_tosses_37 ?_
  refine lv_bipush (v := 100) hx hb dX8_tosses_38 (by decide) ?_
  refine lv_idiv hx hb dX8_tosses_40 (by decide) ?_
  refine lv_iconst (v := 2) hx hb dX8_tosses_41 (by decide) ?_
  refine s1_name (x := (((upd (upd t_now (1 : Int32).toNatClampNeg (z_20 - z_20 / (10000 : Int32) * (10000 : Int32))) (2 : Int32).toNatClampNeg (((upd t_now (1 : Int32).toNatClampNeg (z_20 - z_20 / (10000 : Int32) * (10000 : Int32))) (2 : Int32).toNatClampNeg) + (1 : Int32))) (1 : Int32).toNatClampNeg) / (100 : Int32))) (fun z_42 ez_42 => ?_)
  have hF := lt_i hF ez_42
  refine lv_irem hx hb dX8_tosses_42 (by decide) ?_
  refine lv_iconst (v := 1) hx hb dX8_tosses_43 (by decide) ?_
  refine lv_icmp_ne (tgt := 51) hx hb dX8_tosses_44 (by decide) (fun c_44 => ?_) (fun c_44 => ?_)
  · have hF := iff_ hF c_44
    refine lv_iconst (v := 0) hx hb dX8_tosses_51 (by decide) ?_
    refine lv_istore_n (lv' := [(1, .int (0 : Int32)), (0, .ref a_t)]) hx hb dX8_tosses_52 rfl hl (by decide) rfl (fun ls hl => ?_)
    refine lv_iload_n hx hb dX8_tosses_53 rfl (lv_at hl 0 rfl) ?_
    refine lv_if_eq (tgt := 67) hx hb dX8_tosses_54 (by decide) (fun c_54 => ?_) (fun c_54 => ?_)
    · have hF := ift hF c_54
      refine lv_iload_n hx hb dX8_tosses_67 rfl (lv_at hl 0 rfl) ?_
      obtain ⟨e0_68, e1_68⟩ := inj2 hF
      rw [← e0_68, ← e1_68] at hQ0
      rw [hQ0]
      exact ret_z hx hb hr (by decide +kernel) hlocks hAe hK hP hD hS [0, 1] rfl rfl dX8_tosses_68
    · have hF := iff_ hF c_54
      refine lv_aload_n hx hb dX8_tosses_57 rfl (lv_at hl 1 rfl) ?_
      refine va_get (D := D) (ci := 12) (v := .ref a_t_now) (C := RX8) (T := TX8) (N := 22) hx hb hts iX8_tosses_X8 hown hK hP 0 rfl rfl 0 (by decide) (hts (.fieldLink RX8 9 "SkipArchiveModel" "now" "[I") (List.mem_of_getElem? (i := 1) rfl)) (fun _ h9 => h9) rfl dX8_tosses_58 ?_
      refine lv_iconst (v := 3) hx hb dX8_tosses_61 (by decide) ?_
      refine lv_dup2_11 hx hb dX8_tosses_62 rfl rfl ?_
      obtain ⟨g_63, hF⟩ := gi_i hF
      refine va_iald hx hb hK hP 1 0 rfl rfl g_63 dX8_tosses_63 ?_
      refine lv_iconst (v := 1) hx hb dX8_tosses_64 (by decide) ?_
      refine lv_iadd hx hb dX8_tosses_65 ?_
      obtain ⟨g_66, hF⟩ := gi_i hF
      refine va_iast hx hb hK hP hD hS 1 0 rfl rfl g_66 dX8_tosses_66 (fun H locs hP hD hS => ?_)
      have hP : va_P D vwCl [(a_t, .inr (12, [.ref a_t_now, .ref a_t_tried, .ref a_t_kept, .int t_undos, .ref a_t_saved, .int t_isSaved, .ref a_t_line, .int t_lined, .ref a_t_text, .int t_length, .int t_at, .int t_order, .ref a_t_told, .int t_fault, .int t_reason, .int t_detail, .int t_index, .int t_answer, .int t_thrown, .ref a_t_way, .int t_went, .int t_fell])), (a_t_now, .inl (y 0, 77, .inl (upd (upd (upd t_now (1 : Int32).toNatClampNeg (z_20 - z_20 / (10000 : Int32) * (10000 : Int32))) (2 : Int32).toNatClampNeg (((upd t_now (1 : Int32).toNatClampNeg (z_20 - z_20 / (10000 : Int32) * (10000 : Int32))) (2 : Int32).toNatClampNeg) + (1 : Int32))) (3 : Int32).toNatClampNeg (((upd (upd t_now (1 : Int32).toNatClampNeg (z_20 - z_20 / (10000 : Int32) * (10000 : Int32))) (2 : Int32).toNatClampNeg (((upd t_now (1 : Int32).toNatClampNeg (z_20 - z_20 / (10000 : Int32) * (10000 : Int32))) (2 : Int32).toNatClampNeg) + (1 : Int32))) (3 : Int32).toNatClampNeg) + (1 : Int32)))))] H := hP
      have hD : va_D A [(a_t, .inr (12, [.ref a_t_now, .ref a_t_tried, .ref a_t_kept, .int t_undos, .ref a_t_saved, .int t_isSaved, .ref a_t_line, .int t_lined, .ref a_t_text, .int t_length, .int t_at, .int t_order, .ref a_t_told, .int t_fault, .int t_reason, .int t_detail, .int t_index, .int t_answer, .int t_thrown, .ref a_t_way, .int t_went, .int t_fell])), (a_t_now, .inl (y 0, 77, .inl (upd (upd (upd t_now (1 : Int32).toNatClampNeg (z_20 - z_20 / (10000 : Int32) * (10000 : Int32))) (2 : Int32).toNatClampNeg (((upd t_now (1 : Int32).toNatClampNeg (z_20 - z_20 / (10000 : Int32) * (10000 : Int32))) (2 : Int32).toNatClampNeg) + (1 : Int32))) (3 : Int32).toNatClampNeg (((upd (upd t_now (1 : Int32).toNatClampNeg (z_20 - z_20 / (10000 : Int32) * (10000 : Int32))) (2 : Int32).toNatClampNeg (((upd t_now (1 : Int32).toNatClampNeg (z_20 - z_20 / (10000 : Int32) * (10000 : Int32))) (2 : Int32).toNatClampNeg) + (1 : Int32))) (3 : Int32).toNatClampNeg) + (1 : Int32)))))] := hD
      refine lv_iload_n hx hb dX8_tosses_67 rfl (lv_at hl 0 rfl) ?_
      obtain ⟨e0_68, e1_68⟩ := inj2 hF
      rw [← e0_68, ← e1_68] at hQ0
      rw [hQ0]
      exact ret_z hx hb hr (by decide +kernel) hlocks hAe hK hP hD hS [0, 1] rfl rfl dX8_tosses_68
  · have hF := ift hF c_44
    refine lv_iconst (v := 1) hx hb dX8_tosses_47 (by decide) ?_
    refine lv_goto (tgt := 52) hx hb dX8_tosses_48 (by decide) ?_
    refine lv_istore_n (lv' := [(1, .int (1 : Int32)), (0, .ref a_t)]) hx hb dX8_tosses_52 rfl hl (by decide) rfl (fun ls hl => ?_)
    refine lv_iload_n hx hb dX8_tosses_53 rfl (lv_at hl 0 rfl) ?_
    refine lv_if_eq (tgt := 67) hx hb dX8_tosses_54 (by decide) (fun c_54b => ?_) (fun c_54b => ?_)
    · have hF := ift hF c_54b
      refine lv_iload_n hx hb dX8_tosses_67 rfl (lv_at hl 0 rfl) ?_
      obtain ⟨e0_68, e1_68⟩ := inj2 hF
      rw [← e0_68, ← e1_68] at hQ0
      rw [hQ0]
      exact ret_z hx hb hr (by decide +kernel) hlocks hAe hK hP hD hS [0, 1] rfl rfl dX8_tosses_68
    · have hF := iff_ hF c_54b
      refine lv_aload_n hx hb dX8_tosses_57 rfl (lv_at hl 1 rfl) ?_
      refine va_get (D := D) (ci := 12) (v := .ref a_t_now) (C := RX8) (T := TX8) (N := 22) hx hb hts iX8_tosses_X8 hown hK hP 0 rfl rfl 0 (by decide) (hts (.fieldLink RX8 9 "SkipArchiveModel" "now" "[I") (List.mem_of_getElem? (i := 1) rfl)) (fun _ h9 => h9) rfl dX8_tosses_58 ?_
      refine lv_iconst (v := 3) hx hb dX8_tosses_61 (by decide) ?_
      refine lv_dup2_11 hx hb dX8_tosses_62 rfl rfl ?_
      obtain ⟨g_63b, hF⟩ := gi_i hF
      refine va_iald hx hb hK hP 1 0 rfl rfl g_63b dX8_tosses_63 ?_
      refine lv_iconst (v := 1) hx hb dX8_tosses_64 (by decide) ?_
      refine lv_iadd hx hb dX8_tosses_65 ?_
      obtain ⟨g_66b, hF⟩ := gi_i hF
      refine va_iast hx hb hK hP hD hS 1 0 rfl rfl g_66b dX8_tosses_66 (fun H locs hP hD hS => ?_)
      have hP : va_P D vwCl [(a_t, .inr (12, [.ref a_t_now, .ref a_t_tried, .ref a_t_kept, .int t_undos, .ref a_t_saved, .int t_isSaved, .ref a_t_line, .int t_lined, .ref a_t_text, .int t_length, .int t_at, .int t_order, .ref a_t_told, .int t_fault, .int t_reason, .int t_detail, .int t_index, .int t_answer, .int t_thrown, .ref a_t_way, .int t_went, .int t_fell])), (a_t_now, .inl (y 0, 77, .inl (upd (upd (upd t_now (1 : Int32).toNatClampNeg (z_20 - z_20 / (10000 : Int32) * (10000 : Int32))) (2 : Int32).toNatClampNeg (((upd t_now (1 : Int32).toNatClampNeg (z_20 - z_20 / (10000 : Int32) * (10000 : Int32))) (2 : Int32).toNatClampNeg) + (1 : Int32))) (3 : Int32).toNatClampNeg (((upd (upd t_now (1 : Int32).toNatClampNeg (z_20 - z_20 / (10000 : Int32) * (10000 : Int32))) (2 : Int32).toNatClampNeg (((upd t_now (1 : Int32).toNatClampNeg (z_20 - z_20 / (10000 : Int32) * (10000 : Int32))) (2 : Int32).toNatClampNeg) + (1 : Int32))) (3 : Int32).toNatClampNeg) + (1 : Int32)))))] H := hP
      have hD : va_D A [(a_t, .inr (12, [.ref a_t_now, .ref a_t_tried, .ref a_t_kept, .int t_undos, .ref a_t_saved, .int t_isSaved, .ref a_t_line, .int t_lined, .ref a_t_text, .int t_length, .int t_at, .int t_order, .ref a_t_told, .int t_fault, .int t_reason, .int t_detail, .int t_index, .int t_answer, .int t_thrown, .ref a_t_way, .int t_went, .int t_fell])), (a_t_now, .inl (y 0, 77, .inl (upd (upd (upd t_now (1 : Int32).toNatClampNeg (z_20 - z_20 / (10000 : Int32) * (10000 : Int32))) (2 : Int32).toNatClampNeg (((upd t_now (1 : Int32).toNatClampNeg (z_20 - z_20 / (10000 : Int32) * (10000 : Int32))) (2 : Int32).toNatClampNeg) + (1 : Int32))) (3 : Int32).toNatClampNeg (((upd (upd t_now (1 : Int32).toNatClampNeg (z_20 - z_20 / (10000 : Int32) * (10000 : Int32))) (2 : Int32).toNatClampNeg (((upd t_now (1 : Int32).toNatClampNeg (z_20 - z_20 / (10000 : Int32) * (10000 : Int32))) (2 : Int32).toNatClampNeg) + (1 : Int32))) (3 : Int32).toNatClampNeg) + (1 : Int32)))))] := hD
      refine lv_iload_n hx hb dX8_tosses_67 rfl (lv_at hl 0 rfl) ?_
      obtain ⟨e0_68, e1_68⟩ := inj2 hF
      rw [← e0_68, ← e1_68] at hQ0
      rw [hQ0]
      exact ret_z hx hb hr (by decide +kernel) hlocks hAe hK hP hD hS [0, 1] rfl rfl dX8_tosses_68
def F_X8_tries_7 (fl : Nat) (t_now : Nat → Int32) : Nat → Int32 → (Nat → Int32) → Int32 → Option (Int32 × (Nat → Int32))
  | 0, _, _, _ => none
  | n + 1, t_thrown_w, t_tried_w, x1 => if (77 : Int32) ≤ x1 then (some (t_thrown_w, t_tried_w)) else (gi x1 77 (gi x1 77 (F_X8_tries_7 fl t_now n t_thrown_w (upd t_tried_w x1.toNatClampNeg (t_now x1.toNatClampNeg)) (x1 + (1 : Int32)))))
def F_X8_tries (fl : Nat) (t_thrown : Int32) (t_now : Nat → Int32) (t_tried : Nat → Int32) : Option (Int32 × (Nat → Int32)) := F_X8_tries_7 fl t_now fl (0 : Int32) t_tried (0 : Int32)
theorem iX8_tries_X8 : ∀ w ∈ u_ws RX8 TX8 22, w ∈ wsX8_tries := fun w h => List.mem_cons_of_mem _ (List.mem_append_left _ (List.mem_append_right _ h))
set_option maxHeartbeats 4000000 in
set_option maxRecDepth 100000 in
theorem c_X8_tries (l : Launch) (D : va_G) (y : Nat → ClassId) (fl : Nat) (sz : Nat) (a_t : Nat) (a_t_now : Nat) (a_t_tried : Nat) (a_t_kept : Nat) (a_t_saved : Nat) (a_t_line : Nat) (a_t_text : Nat) (a_t_told : Nat) (a_t_way : Nat) (t_undos : Int32) (t_isSaved : Int32) (t_lined : Int32) (t_length : Int32) (t_at : Int32) (t_order : Int32) (t_fault : Int32) (t_reason : Int32) (t_detail : Int32) (t_index : Int32) (t_answer : Int32) (t_thrown : Int32) (t_went : Int32) (t_fell : Int32) (t_now : Nat → Int32) (t_tried : Nat → Int32) (t_thrown' : Int32) (t_tried' : Nat → Int32) (hF : F_X8_tries fl t_thrown t_now t_tried = some (t_thrown', t_tried')) : Met l yX8_tries wsX8_tries (rmq 0 0) (wrP D y [(a_t, .inr (12, [.ref a_t_now, .ref a_t_tried, .ref a_t_kept, .int t_undos, .ref a_t_saved, .int t_isSaved, .ref a_t_line, .int t_lined, .ref a_t_text, .int t_length, .int t_at, .int t_order, .ref a_t_told, .int t_fault, .int t_reason, .int t_detail, .int t_index, .int t_answer, .int t_thrown, .ref a_t_way, .int t_went, .int t_fell])), (a_t_now, .inl (y 0, 77, .inl t_now)), (a_t_tried, .inl (y 0, 77, .inl t_tried))] sz [.ref a_t]) (wQv D y [(a_t, .inr (12, [.ref a_t_now, .ref a_t_tried, .ref a_t_kept, .int t_undos, .ref a_t_saved, .int t_isSaved, .ref a_t_line, .int t_lined, .ref a_t_text, .int t_length, .int t_at, .int t_order, .ref a_t_told, .int t_fault, .int t_reason, .int t_detail, .int t_index, .int t_answer, .int t_thrown', .ref a_t_way, .int t_went, .int t_fell])), (a_t_now, .inl (y 0, 77, .inl t_now)), (a_t_tried, .inl (y 0, 77, .inl t_tried'))] [(a_t, .inr (12, [.ref a_t_now, .ref a_t_tried, .ref a_t_kept, .int t_undos, .ref a_t_saved, .int t_isSaved, .ref a_t_line, .int t_lined, .ref a_t_text, .int t_length, .int t_at, .int t_order, .ref a_t_told, .int t_fault, .int t_reason, .int t_detail, .int t_index, .int t_answer, .int t_thrown, .ref a_t_way, .int t_went, .int t_fell])), (a_t_now, .inl (y 0, 77, .inl t_now)), (a_t_tried, .inl (y 0, 77, .inl t_tried))] sz) 0 0 (va_A [(a_t, .inr (12, [.ref a_t_now, .ref a_t_tried, .ref a_t_kept, .int t_undos, .ref a_t_saved, .int t_isSaved, .ref a_t_line, .int t_lined, .ref a_t_text, .int t_length, .int t_at, .int t_order, .ref a_t_told, .int t_fault, .int t_reason, .int t_detail, .int t_index, .int t_answer, .int t_thrown, .ref a_t_way, .int t_went, .int t_fell])), (a_t_now, .inl (y 0, 77, .inl t_now)), (a_t_tried, .inl (y 0, 77, .inl t_tried))] sz) := by
  refine Met.ofW (cc := cX8_tries) (maxL := 2) (ret := none) (by decide) rfl ?_
  intro p e s m args below meth c s₁ B hml hv
  obtain ⟨hav, hsz, hP, hK, hD0⟩ := hv
  have hx := B.exec
  have hb := B.bytes
  have hr := B.returns
  have hts := atoms_spec (ws := wsX8_tries) B.pre
  have hown : s.vm.findClass RX8 = some m.cls := findClass_of_methodNamed B.named
  have hlocks := B.notSynchronized
  subst hsz
  have hD := hD0.self (sz := s.heap.size)
  obtain ⟨A, hAe⟩ : ∃ A : Nat → Prop, va_A [(a_t, .inr (12, [.ref a_t_now, .ref a_t_tried, .ref a_t_kept, .int t_undos, .ref a_t_saved, .int t_isSaved, .ref a_t_line, .int t_lined, .ref a_t_text, .int t_length, .int t_at, .int t_order, .ref a_t_told, .int t_fault, .int t_reason, .int t_detail, .int t_index, .int t_answer, .int t_thrown, .ref a_t_way, .int t_went, .int t_fell])), (a_t_now, .inl (y 0, 77, .inl t_now)), (a_t_tried, .inl (y 0, 77, .inl t_tried))] s.heap.size = A := ⟨_, rfl⟩
  rw [hAe] at hD
  have hA : ∀ q, s.heap.size ≤ q → A q := fun q h => by rw [← hAe]; exact Or.inr h
  have hS : va_S A s.heap s.heap [] := va_S.rf
  refine W_q (R1 := (rmq 0 0)) rfl (fun Q0 hQ0 => ?_)
  unfold F_X8_tries at hF
  have k_7 : ∀ (n : Nat) (t_thrown_w : Int32) (t_tried_w : Nat → Int32) (x1 : Int32), F_X8_tries_7 fl t_now n t_thrown_w t_tried_w x1 = some (t_thrown', t_tried') → ∀ (H : Heap) (locs : List Loc), va_P D vwCl [(a_t, .inr (12, [.ref a_t_now, .ref a_t_tried, .ref a_t_kept, .int t_undos, .ref a_t_saved, .int t_isSaved, .ref a_t_line, .int t_lined, .ref a_t_text, .int t_length, .int t_at, .int t_order, .ref a_t_told, .int t_fault, .int t_reason, .int t_detail, .int t_index, .int t_answer, .int t_thrown_w, .ref a_t_way, .int t_went, .int t_fell])), (a_t_now, .inl (y 0, 77, .inl t_now)), (a_t_tried, .inl (y 0, 77, .inl t_tried_w))] H → va_D A [(a_t, .inr (12, [.ref a_t_now, .ref a_t_tried, .ref a_t_kept, .int t_undos, .ref a_t_saved, .int t_isSaved, .ref a_t_line, .int t_lined, .ref a_t_text, .int t_length, .int t_at, .int t_order, .ref a_t_told, .int t_fault, .int t_reason, .int t_detail, .int t_index, .int t_answer, .int t_thrown_w, .ref a_t_way, .int t_went, .int t_fell])), (a_t_now, .inl (y 0, 77, .inl t_now)), (a_t_tried, .inl (y 0, 77, .inl t_tried_w))] → va_S A s.heap H locs → ∀ (ls : Array Slot), lv_has ls 2 [(0, .ref a_t), (1, .int x1)] → W p l e (rmq 0 0) s m args below meth c H locs 0 0 Q0 (F0 m 7 ls []) := by
    intro n
    induction n with
    | zero => intro t_thrown_w t_tried_w x1 hF; rw [F_X8_tries_7] at hF; cases hF
    | succ n ih =>
      intro t_thrown_w t_tried_w x1 hF H locs hP hD hS ls hl
      rw [F_X8_tries_7] at hF
      refine lv_iload_n hx hb dX8_tries_7 rfl (lv_at hl 1 rfl) ?_
      refine lv_bipush (v := 77) hx hb dX8_tries_8 (by decide) ?_
      refine lv_icmp_ge (tgt := 31) hx hb dX8_tries_10 (by decide) (fun c_10 => ?_) (fun c_10 => ?_)
      · have hF := ift hF c_10
        obtain ⟨e0_31, e1_31⟩ := inj2 hF
        rw [← e0_31, ← e1_31] at hQ0
        rw [hQ0]
        exact ret_v hx hb hr hlocks hAe hK hP hD hS [0, 1, 2] rfl rfl dX8_tries_31
      · have hF := iff_ hF c_10
        refine lv_aload_n hx hb dX8_tries_13 rfl (lv_at hl 0 rfl) ?_
        refine va_get (D := D) (ci := 12) (v := .ref a_t_tried) (C := RX8) (T := TX8) (N := 22) hx hb hts iX8_tries_X8 hown hK hP 0 rfl rfl 1 (by decide) (hts (.fieldLink RX8 13 "SkipArchiveModel" "tried" "[I") (List.mem_of_getElem? (i := 2) rfl)) (fun _ h9 => h9) rfl dX8_tries_14 ?_
        refine lv_iload_n hx hb dX8_tries_17 rfl (lv_at hl 1 rfl) ?_
        refine lv_aload_n hx hb dX8_tries_18 rfl (lv_at hl 0 rfl) ?_
        refine va_get (D := D) (ci := 12) (v := .ref a_t_now) (C := RX8) (T := TX8) (N := 22) hx hb hts iX8_tries_X8 hown hK hP 0 rfl rfl 0 (by decide) (hts (.fieldLink RX8 9 "SkipArchiveModel" "now" "[I") (List.mem_of_getElem? (i := 3) rfl)) (fun _ h9 => h9) rfl dX8_tries_19 ?_
        refine lv_iload_n hx hb dX8_tries_22 rfl (lv_at hl 1 rfl) ?_
        obtain ⟨g_23, hF⟩ := gi_i hF
        refine va_iald hx hb hK hP 1 0 rfl rfl g_23 dX8_tries_23 ?_
        obtain ⟨g_24, hF⟩ := gi_i hF
        refine va_iast hx hb hK hP hD hS 2 0 rfl rfl g_24 dX8_tries_24 (fun H locs hP hD hS => ?_)
        have hP : va_P D vwCl [(a_t, .inr (12, [.ref a_t_now, .ref a_t_tried, .ref a_t_kept, .int t_undos, .ref a_t_saved, .int t_isSaved, .ref a_t_line, .int t_lined, .ref a_t_text, .int t_length, .int t_at, .int t_order, .ref a_t_told, .int t_fault, .int t_reason, .int t_detail, .int t_index, .int t_answer, .int t_thrown_w, .ref a_t_way, .int t_went, .int t_fell])), (a_t_now, .inl (y 0, 77, .inl t_now)), (a_t_tried, .inl (y 0, 77, .inl (upd t_tried_w x1.toNatClampNeg (t_now x1.toNatClampNeg))))] H := hP
        have hD : va_D A [(a_t, .inr (12, [.ref a_t_now, .ref a_t_tried, .ref a_t_kept, .int t_undos, .ref a_t_saved, .int t_isSaved, .ref a_t_line, .int t_lined, .ref a_t_text, .int t_length, .int t_at, .int t_order, .ref a_t_told, .int t_fault, .int t_reason, .int t_detail, .int t_index, .int t_answer, .int t_thrown_w, .ref a_t_way, .int t_went, .int t_fell])), (a_t_now, .inl (y 0, 77, .inl t_now)), (a_t_tried, .inl (y 0, 77, .inl (upd t_tried_w x1.toNatClampNeg (t_now x1.toNatClampNeg))))] := hD
        refine lv_iinc (v := x1 + (1 : Int32)) (lv' := [(1, .int (x1 + (1 : Int32))), (0, .ref a_t)]) hx hb dX8_tries_25 hl (k := 1) rfl rfl (by decide) rfl (fun ls hl => ?_)
        refine lv_goto (tgt := 7) hx hb dX8_tries_28 (by decide) ?_
        exact ih t_thrown_w (upd t_tried_w x1.toNatClampNeg (t_now x1.toNatClampNeg)) (x1 + (1 : Int32)) hF _ _ hP hD hS ls (lv_sub hl [1, 0] rfl)
  refine W_entry hav (Nat.le_of_ble_eq_true rfl) (fun ls hl => ?_)
  have hl : lv_has ls 2 [(0, .ref a_t)] := hl
  refine lv_aload_n hx hb dX8_tries_0 rfl (lv_at hl 0 rfl) ?_
  refine lv_iconst (v := 0) hx hb dX8_tries_1 (by decide) ?_
  refine va_put (D := D) (ci := 12) (v := .int (0 : Int32)) (ty := .int) (C := RX8) (T := TX8) (N := 22) hx hb hts iX8_tries_X8 tyX8 tyX8_ok nmX8 hown hK hP hD hS 0 rfl rfl 18 (by decide) (hts (.fieldLink RX8 39 "SkipArchiveModel" "thrown" "I") (List.mem_of_getElem? (i := 1) rfl)) (fun _ h9 => h9) rfl (by decide +kernel) rfl rfl (Nat.le_of_ble_eq_true rfl) dX8_tries_2 (fun H locs hP hD hS => ?_)
  have hP : va_P D vwCl [(a_t, .inr (12, [.ref a_t_now, .ref a_t_tried, .ref a_t_kept, .int t_undos, .ref a_t_saved, .int t_isSaved, .ref a_t_line, .int t_lined, .ref a_t_text, .int t_length, .int t_at, .int t_order, .ref a_t_told, .int t_fault, .int t_reason, .int t_detail, .int t_index, .int t_answer, .int (0 : Int32), .ref a_t_way, .int t_went, .int t_fell])), (a_t_now, .inl (y 0, 77, .inl t_now)), (a_t_tried, .inl (y 0, 77, .inl t_tried))] H := hP
  have hD : va_D A [(a_t, .inr (12, [.ref a_t_now, .ref a_t_tried, .ref a_t_kept, .int t_undos, .ref a_t_saved, .int t_isSaved, .ref a_t_line, .int t_lined, .ref a_t_text, .int t_length, .int t_at, .int t_order, .ref a_t_told, .int t_fault, .int t_reason, .int t_detail, .int t_index, .int t_answer, .int (0 : Int32), .ref a_t_way, .int t_went, .int t_fell])), (a_t_now, .inl (y 0, 77, .inl t_now)), (a_t_tried, .inl (y 0, 77, .inl t_tried))] := hD
  refine lv_iconst (v := 0) hx hb dX8_tries_5 (by decide) ?_
  refine lv_istore_n (lv' := [(1, .int (0 : Int32)), (0, .ref a_t)]) hx hb dX8_tries_6 rfl hl (by decide) rfl (fun ls hl => ?_)
  exact k_7 fl (0 : Int32) t_tried (0 : Int32) hF _ _ hP hD hS ls (lv_sub hl [1, 0] rfl)
def F_X8_comesBack_2 (fl : Nat) (t_tried : Nat → Int32) : Nat → (Nat → Int32) → Int32 → Option ((Nat → Int32))
  | 0, _, _ => none
  | n + 1, t_now_w, x1 => if (77 : Int32) ≤ x1 then (some t_now_w) else (gi x1 77 (gi x1 77 (F_X8_comesBack_2 fl t_tried n (upd t_now_w x1.toNatClampNeg (t_tried x1.toNatClampNeg)) (x1 + (1 : Int32)))))
def F_X8_comesBack (fl : Nat) (t_now : Nat → Int32) (t_tried : Nat → Int32) : Option ((Nat → Int32)) := F_X8_comesBack_2 fl t_tried fl t_now (0 : Int32)
theorem iX8_comesBack_X8 : ∀ w ∈ u_ws RX8 TX8 22, w ∈ wsX8_comesBack := fun w h => List.mem_cons_of_mem _ (List.mem_append_left _ (List.mem_append_right _ h))
set_option maxHeartbeats 4000000 in
set_option maxRecDepth 100000 in
theorem c_X8_comesBack (l : Launch) (D : va_G) (y : Nat → ClassId) (fl : Nat) (sz : Nat) (a_t : Nat) (a_t_now : Nat) (a_t_tried : Nat) (a_t_kept : Nat) (a_t_saved : Nat) (a_t_line : Nat) (a_t_text : Nat) (a_t_told : Nat) (a_t_way : Nat) (t_undos : Int32) (t_isSaved : Int32) (t_lined : Int32) (t_length : Int32) (t_at : Int32) (t_order : Int32) (t_fault : Int32) (t_reason : Int32) (t_detail : Int32) (t_index : Int32) (t_answer : Int32) (t_thrown : Int32) (t_went : Int32) (t_fell : Int32) (t_now : Nat → Int32) (t_tried : Nat → Int32) (t_now' : Nat → Int32) (hF : F_X8_comesBack fl t_now t_tried = some t_now') : Met l yX8_comesBack wsX8_comesBack (rmq 0 0) (wrP D y [(a_t, .inr (12, [.ref a_t_now, .ref a_t_tried, .ref a_t_kept, .int t_undos, .ref a_t_saved, .int t_isSaved, .ref a_t_line, .int t_lined, .ref a_t_text, .int t_length, .int t_at, .int t_order, .ref a_t_told, .int t_fault, .int t_reason, .int t_detail, .int t_index, .int t_answer, .int t_thrown, .ref a_t_way, .int t_went, .int t_fell])), (a_t_now, .inl (y 0, 77, .inl t_now)), (a_t_tried, .inl (y 0, 77, .inl t_tried))] sz [.ref a_t]) (wQv D y [(a_t, .inr (12, [.ref a_t_now, .ref a_t_tried, .ref a_t_kept, .int t_undos, .ref a_t_saved, .int t_isSaved, .ref a_t_line, .int t_lined, .ref a_t_text, .int t_length, .int t_at, .int t_order, .ref a_t_told, .int t_fault, .int t_reason, .int t_detail, .int t_index, .int t_answer, .int t_thrown, .ref a_t_way, .int t_went, .int t_fell])), (a_t_now, .inl (y 0, 77, .inl t_now')), (a_t_tried, .inl (y 0, 77, .inl t_tried))] [(a_t, .inr (12, [.ref a_t_now, .ref a_t_tried, .ref a_t_kept, .int t_undos, .ref a_t_saved, .int t_isSaved, .ref a_t_line, .int t_lined, .ref a_t_text, .int t_length, .int t_at, .int t_order, .ref a_t_told, .int t_fault, .int t_reason, .int t_detail, .int t_index, .int t_answer, .int t_thrown, .ref a_t_way, .int t_went, .int t_fell])), (a_t_now, .inl (y 0, 77, .inl t_now)), (a_t_tried, .inl (y 0, 77, .inl t_tried))] sz) 0 0 (va_A [(a_t, .inr (12, [.ref a_t_now, .ref a_t_tried, .ref a_t_kept, .int t_undos, .ref a_t_saved, .int t_isSaved, .ref a_t_line, .int t_lined, .ref a_t_text, .int t_length, .int t_at, .int t_order, .ref a_t_told, .int t_fault, .int t_reason, .int t_detail, .int t_index, .int t_answer, .int t_thrown, .ref a_t_way, .int t_went, .int t_fell])), (a_t_now, .inl (y 0, 77, .inl t_now)), (a_t_tried, .inl (y 0, 77, .inl t_tried))] sz) := by
  refine Met.ofW (cc := cX8_comesBack) (maxL := 2) (ret := none) (by decide) rfl ?_
  intro p e s m args below meth c s₁ B hml hv
  obtain ⟨hav, hsz, hP, hK, hD0⟩ := hv
  have hx := B.exec
  have hb := B.bytes
  have hr := B.returns
  have hts := atoms_spec (ws := wsX8_comesBack) B.pre
  have hown : s.vm.findClass RX8 = some m.cls := findClass_of_methodNamed B.named
  have hlocks := B.notSynchronized
  subst hsz
  have hD := hD0.self (sz := s.heap.size)
  obtain ⟨A, hAe⟩ : ∃ A : Nat → Prop, va_A [(a_t, .inr (12, [.ref a_t_now, .ref a_t_tried, .ref a_t_kept, .int t_undos, .ref a_t_saved, .int t_isSaved, .ref a_t_line, .int t_lined, .ref a_t_text, .int t_length, .int t_at, .int t_order, .ref a_t_told, .int t_fault, .int t_reason, .int t_detail, .int t_index, .int t_answer, .int t_thrown, .ref a_t_way, .int t_went, .int t_fell])), (a_t_now, .inl (y 0, 77, .inl t_now)), (a_t_tried, .inl (y 0, 77, .inl t_tried))] s.heap.size = A := ⟨_, rfl⟩
  rw [hAe] at hD
  have hA : ∀ q, s.heap.size ≤ q → A q := fun q h => by rw [← hAe]; exact Or.inr h
  have hS : va_S A s.heap s.heap [] := va_S.rf
  refine W_q (R1 := (rmq 0 0)) rfl (fun Q0 hQ0 => ?_)
  unfold F_X8_comesBack at hF
  have k_2 : ∀ (n : Nat) (t_now_w : Nat → Int32) (x1 : Int32), F_X8_comesBack_2 fl t_tried n t_now_w x1 = some t_now' → ∀ (H : Heap) (locs : List Loc), va_P D vwCl [(a_t, .inr (12, [.ref a_t_now, .ref a_t_tried, .ref a_t_kept, .int t_undos, .ref a_t_saved, .int t_isSaved, .ref a_t_line, .int t_lined, .ref a_t_text, .int t_length, .int t_at, .int t_order, .ref a_t_told, .int t_fault, .int t_reason, .int t_detail, .int t_index, .int t_answer, .int t_thrown, .ref a_t_way, .int t_went, .int t_fell])), (a_t_now, .inl (y 0, 77, .inl t_now_w)), (a_t_tried, .inl (y 0, 77, .inl t_tried))] H → va_D A [(a_t, .inr (12, [.ref a_t_now, .ref a_t_tried, .ref a_t_kept, .int t_undos, .ref a_t_saved, .int t_isSaved, .ref a_t_line, .int t_lined, .ref a_t_text, .int t_length, .int t_at, .int t_order, .ref a_t_told, .int t_fault, .int t_reason, .int t_detail, .int t_index, .int t_answer, .int t_thrown, .ref a_t_way, .int t_went, .int t_fell])), (a_t_now, .inl (y 0, 77, .inl t_now_w)), (a_t_tried, .inl (y 0, 77, .inl t_tried))] → va_S A s.heap H locs → ∀ (ls : Array Slot), lv_has ls 2 [(0, .ref a_t), (1, .int x1)] → W p l e (rmq 0 0) s m args below meth c H locs 0 0 Q0 (F0 m 2 ls []) := by
    intro n
    induction n with
    | zero => intro t_now_w x1 hF; rw [F_X8_comesBack_2] at hF; cases hF
    | succ n ih =>
      intro t_now_w x1 hF H locs hP hD hS ls hl
      rw [F_X8_comesBack_2] at hF
      refine lv_iload_n hx hb dX8_comesBack_2 rfl (lv_at hl 1 rfl) ?_
      refine lv_bipush (v := 77) hx hb dX8_comesBack_3 (by decide) ?_
      refine lv_icmp_ge (tgt := 26) hx hb dX8_comesBack_5 (by decide) (fun c_5 => ?_) (fun c_5 => ?_)
      · have hF := ift hF c_5
        obtain e0_26 := inj1 hF
        rw [← e0_26] at hQ0
        rw [hQ0]
        exact ret_v hx hb hr hlocks hAe hK hP hD hS [0, 1, 2] rfl rfl dX8_comesBack_26
      · have hF := iff_ hF c_5
        refine lv_aload_n hx hb dX8_comesBack_8 rfl (lv_at hl 0 rfl) ?_
        refine va_get (D := D) (ci := 12) (v := .ref a_t_now) (C := RX8) (T := TX8) (N := 22) hx hb hts iX8_comesBack_X8 hown hK hP 0 rfl rfl 0 (by decide) (hts (.fieldLink RX8 9 "SkipArchiveModel" "now" "[I") (List.mem_of_getElem? (i := 1) rfl)) (fun _ h9 => h9) rfl dX8_comesBack_9 ?_
        refine lv_iload_n hx hb dX8_comesBack_12 rfl (lv_at hl 1 rfl) ?_
        refine lv_aload_n hx hb dX8_comesBack_13 rfl (lv_at hl 0 rfl) ?_
        refine va_get (D := D) (ci := 12) (v := .ref a_t_tried) (C := RX8) (T := TX8) (N := 22) hx hb hts iX8_comesBack_X8 hown hK hP 0 rfl rfl 1 (by decide) (hts (.fieldLink RX8 13 "SkipArchiveModel" "tried" "[I") (List.mem_of_getElem? (i := 2) rfl)) (fun _ h9 => h9) rfl dX8_comesBack_14 ?_
        refine lv_iload_n hx hb dX8_comesBack_17 rfl (lv_at hl 1 rfl) ?_
        obtain ⟨g_18, hF⟩ := gi_i hF
        refine va_iald hx hb hK hP 2 0 rfl rfl g_18 dX8_comesBack_18 ?_
        obtain ⟨g_19, hF⟩ := gi_i hF
        refine va_iast hx hb hK hP hD hS 1 0 rfl rfl g_19 dX8_comesBack_19 (fun H locs hP hD hS => ?_)
        have hP : va_P D vwCl [(a_t, .inr (12, [.ref a_t_now, .ref a_t_tried, .ref a_t_kept, .int t_undos, .ref a_t_saved, .int t_isSaved, .ref a_t_line, .int t_lined, .ref a_t_text, .int t_length, .int t_at, .int t_order, .ref a_t_told, .int t_fault, .int t_reason, .int t_detail, .int t_index, .int t_answer, .int t_thrown, .ref a_t_way, .int t_went, .int t_fell])), (a_t_now, .inl (y 0, 77, .inl (upd t_now_w x1.toNatClampNeg (t_tried x1.toNatClampNeg)))), (a_t_tried, .inl (y 0, 77, .inl t_tried))] H := hP
        have hD : va_D A [(a_t, .inr (12, [.ref a_t_now, .ref a_t_tried, .ref a_t_kept, .int t_undos, .ref a_t_saved, .int t_isSaved, .ref a_t_line, .int t_lined, .ref a_t_text, .int t_length, .int t_at, .int t_order, .ref a_t_told, .int t_fault, .int t_reason, .int t_detail, .int t_index, .int t_answer, .int t_thrown, .ref a_t_way, .int t_went, .int t_fell])), (a_t_now, .inl (y 0, 77, .inl (upd t_now_w x1.toNatClampNeg (t_tried x1.toNatClampNeg)))), (a_t_tried, .inl (y 0, 77, .inl t_tried))] := hD
        refine lv_iinc (v := x1 + (1 : Int32)) (lv' := [(1, .int (x1 + (1 : Int32))), (0, .ref a_t)]) hx hb dX8_comesBack_20 hl (k := 1) rfl rfl (by decide) rfl (fun ls hl => ?_)
        refine lv_goto (tgt := 2) hx hb dX8_comesBack_23 (by decide) ?_
        exact ih (upd t_now_w x1.toNatClampNeg (t_tried x1.toNatClampNeg)) (x1 + (1 : Int32)) hF _ _ hP hD hS ls (lv_sub hl [1, 0] rfl)
  refine W_entry hav (Nat.le_of_ble_eq_true rfl) (fun ls hl => ?_)
  have hl : lv_has ls 2 [(0, .ref a_t)] := hl
  refine lv_iconst (v := 0) hx hb dX8_comesBack_0 (by decide) ?_
  refine lv_istore_n (lv' := [(1, .int (0 : Int32)), (0, .ref a_t)]) hx hb dX8_comesBack_1 rfl hl (by decide) rfl (fun ls hl => ?_)
  exact k_2 fl t_now (0 : Int32) hF _ _ hP hD hS ls (lv_sub hl [1, 0] rfl)
def F_X8_keeps_51 (fl : Nat) (t_tried : Nat → Int32) : Nat → Int32 → (Nat → Int32) → Int32 → Int32 → Option (Int32 × Int32 × (Nat → Int32))
  | 0, _, _, _, _ => none
  | n + 1, t_undos_w, t_kept_w, x1, x2 => if (77 : Int32) ≤ x2 then (some (x1, t_undos_w + (1 : Int32), t_kept_w)) else (gi x2 77 (gi (((77 : Int32) * t_undos_w) + x2) 616 (F_X8_keeps_51 fl t_tried n t_undos_w (upd t_kept_w (((77 : Int32) * t_undos_w) + x2).toNatClampNeg (t_tried x2.toNatClampNeg)) x1 (x2 + (1 : Int32)))))
def F_X8_keeps_11 (fl : Nat) (t_tried : Nat → Int32) : Nat → Int32 → (Nat → Int32) → Int32 → Int32 → Option (Int32 × Int32 × (Nat → Int32))
  | 0, _, _, _, _ => none
  | n + 1, t_undos_w, t_kept_w, x1, x2 => if (539 : Int32) ≤ x2 then (F_X8_keeps_51 fl t_tried fl (t_undos_w - (1 : Int32)) t_kept_w x1 (0 : Int32)) else (gi ((77 : Int32) + x2) 616 (gi x2 616 (F_X8_keeps_11 fl t_tried n t_undos_w (upd t_kept_w x2.toNatClampNeg (t_kept_w ((77 : Int32) + x2).toNatClampNeg)) x1 (x2 + (1 : Int32)))))
def F_X8_keeps (fl : Nat) (t_undos : Int32) (t_tried : Nat → Int32) (t_kept : Nat → Int32) (p1 : Int32) : Option (Int32 × Int32 × (Nat → Int32)) := if t_undos = (8 : Int32) then (F_X8_keeps_11 fl t_tried fl t_undos t_kept p1 (0 : Int32)) else (F_X8_keeps_51 fl t_tried fl t_undos t_kept p1 (0 : Int32))
theorem iX8_keeps_X8 : ∀ w ∈ u_ws RX8 TX8 22, w ∈ wsX8_keeps := fun w h => List.mem_cons_of_mem _ (List.mem_append_left _ (List.mem_append_right _ h))
set_option maxHeartbeats 4000000 in
set_option maxRecDepth 100000 in
theorem c_X8_keeps (l : Launch) (D : va_G) (y : Nat → ClassId) (fl : Nat) (sz : Nat) (a_t : Nat) (a_t_now : Nat) (a_t_tried : Nat) (a_t_kept : Nat) (a_t_saved : Nat) (a_t_line : Nat) (a_t_text : Nat) (a_t_told : Nat) (a_t_way : Nat) (t_undos : Int32) (t_isSaved : Int32) (t_lined : Int32) (t_length : Int32) (t_at : Int32) (t_order : Int32) (t_fault : Int32) (t_reason : Int32) (t_detail : Int32) (t_index : Int32) (t_answer : Int32) (t_thrown : Int32) (t_went : Int32) (t_fell : Int32) (t_tried : Nat → Int32) (t_kept : Nat → Int32) (p1 : Int32) (r : Int32) (t_undos' : Int32) (t_kept' : Nat → Int32) (hF : F_X8_keeps fl t_undos t_tried t_kept p1 = some (r, t_undos', t_kept')) : Met l yX8_keeps wsX8_keeps (rmq 0 0) (wrP D y [(a_t, .inr (12, [.ref a_t_now, .ref a_t_tried, .ref a_t_kept, .int t_undos, .ref a_t_saved, .int t_isSaved, .ref a_t_line, .int t_lined, .ref a_t_text, .int t_length, .int t_at, .int t_order, .ref a_t_told, .int t_fault, .int t_reason, .int t_detail, .int t_index, .int t_answer, .int t_thrown, .ref a_t_way, .int t_went, .int t_fell])), (a_t_tried, .inl (y 0, 77, .inl t_tried)), (a_t_kept, .inl (y 0, 616, .inl t_kept))] sz [.ref a_t, .int p1]) (wQi D y r [(a_t, .inr (12, [.ref a_t_now, .ref a_t_tried, .ref a_t_kept, .int t_undos', .ref a_t_saved, .int t_isSaved, .ref a_t_line, .int t_lined, .ref a_t_text, .int t_length, .int t_at, .int t_order, .ref a_t_told, .int t_fault, .int t_reason, .int t_detail, .int t_index, .int t_answer, .int t_thrown, .ref a_t_way, .int t_went, .int t_fell])), (a_t_tried, .inl (y 0, 77, .inl t_tried)), (a_t_kept, .inl (y 0, 616, .inl t_kept'))] [(a_t, .inr (12, [.ref a_t_now, .ref a_t_tried, .ref a_t_kept, .int t_undos, .ref a_t_saved, .int t_isSaved, .ref a_t_line, .int t_lined, .ref a_t_text, .int t_length, .int t_at, .int t_order, .ref a_t_told, .int t_fault, .int t_reason, .int t_detail, .int t_index, .int t_answer, .int t_thrown, .ref a_t_way, .int t_went, .int t_fell])), (a_t_tried, .inl (y 0, 77, .inl t_tried)), (a_t_kept, .inl (y 0, 616, .inl t_kept))] sz) 0 0 (va_A [(a_t, .inr (12, [.ref a_t_now, .ref a_t_tried, .ref a_t_kept, .int t_undos, .ref a_t_saved, .int t_isSaved, .ref a_t_line, .int t_lined, .ref a_t_text, .int t_length, .int t_at, .int t_order, .ref a_t_told, .int t_fault, .int t_reason, .int t_detail, .int t_index, .int t_answer, .int t_thrown, .ref a_t_way, .int t_went, .int t_fell])), (a_t_tried, .inl (y 0, 77, .inl t_tried)), (a_t_kept, .inl (y 0, 616, .inl t_kept))] sz) := by
  refine Met.ofW (cc := cX8_keeps) (maxL := 3) (ret := (some .int)) (by decide) rfl ?_
  intro p e s m args below meth c s₁ B hml hv
  obtain ⟨hav, hsz, hP, hK, hD0⟩ := hv
  have hx := B.exec
  have hb := B.bytes
  have hr := B.returns
  have hts := atoms_spec (ws := wsX8_keeps) B.pre
  have hown : s.vm.findClass RX8 = some m.cls := findClass_of_methodNamed B.named
  have hlocks := B.notSynchronized
  subst hsz
  have hD := hD0.self (sz := s.heap.size)
  obtain ⟨A, hAe⟩ : ∃ A : Nat → Prop, va_A [(a_t, .inr (12, [.ref a_t_now, .ref a_t_tried, .ref a_t_kept, .int t_undos, .ref a_t_saved, .int t_isSaved, .ref a_t_line, .int t_lined, .ref a_t_text, .int t_length, .int t_at, .int t_order, .ref a_t_told, .int t_fault, .int t_reason, .int t_detail, .int t_index, .int t_answer, .int t_thrown, .ref a_t_way, .int t_went, .int t_fell])), (a_t_tried, .inl (y 0, 77, .inl t_tried)), (a_t_kept, .inl (y 0, 616, .inl t_kept))] s.heap.size = A := ⟨_, rfl⟩
  rw [hAe] at hD
  have hA : ∀ q, s.heap.size ≤ q → A q := fun q h => by rw [← hAe]; exact Or.inr h
  have hS : va_S A s.heap s.heap [] := va_S.rf
  refine W_q (R1 := (rmq 0 0)) rfl (fun Q0 hQ0 => ?_)
  unfold F_X8_keeps at hF
  have k_51 : ∀ (n : Nat) (t_undos_w : Int32) (t_kept_w : Nat → Int32) (x1 : Int32) (x2 : Int32), F_X8_keeps_51 fl t_tried n t_undos_w t_kept_w x1 x2 = some (r, t_undos', t_kept') → ∀ (H : Heap) (locs : List Loc), va_P D vwCl [(a_t, .inr (12, [.ref a_t_now, .ref a_t_tried, .ref a_t_kept, .int t_undos_w, .ref a_t_saved, .int t_isSaved, .ref a_t_line, .int t_lined, .ref a_t_text, .int t_length, .int t_at, .int t_order, .ref a_t_told, .int t_fault, .int t_reason, .int t_detail, .int t_index, .int t_answer, .int t_thrown, .ref a_t_way, .int t_went, .int t_fell])), (a_t_tried, .inl (y 0, 77, .inl t_tried)), (a_t_kept, .inl (y 0, 616, .inl t_kept_w))] H → va_D A [(a_t, .inr (12, [.ref a_t_now, .ref a_t_tried, .ref a_t_kept, .int t_undos_w, .ref a_t_saved, .int t_isSaved, .ref a_t_line, .int t_lined, .ref a_t_text, .int t_length, .int t_at, .int t_order, .ref a_t_told, .int t_fault, .int t_reason, .int t_detail, .int t_index, .int t_answer, .int t_thrown, .ref a_t_way, .int t_went, .int t_fell])), (a_t_tried, .inl (y 0, 77, .inl t_tried)), (a_t_kept, .inl (y 0, 616, .inl t_kept_w))] → va_S A s.heap H locs → ∀ (ls : Array Slot), lv_has ls 3 [(0, .ref a_t), (1, .int x1), (2, .int x2)] → W p l e (rmq 0 0) s m args below meth c H locs 0 0 Q0 (F0 m 51 ls []) := by
    intro n
    induction n with
    | zero => intro t_undos_w t_kept_w x1 x2 hF; rw [F_X8_keeps_51] at hF; cases hF
    | succ n ih =>
      intro t_undos_w t_kept_w x1 x2 hF H locs hP hD hS ls hl
      rw [F_X8_keeps_51] at hF
      refine lv_iload_n hx hb dX8_keeps_51 rfl (lv_at hl 2 rfl) ?_
      refine lv_bipush (v := 77) hx hb dX8_keeps_52 (by decide) ?_
      refine lv_icmp_ge (tgt := 83) hx hb dX8_keeps_54 (by decide) (fun c_54 => ?_) (fun c_54 => ?_)
      · have hF := ift hF c_54
        refine lv_aload_n hx hb dX8_keeps_83 rfl (lv_at hl 0 rfl) ?_
        refine lv_dup hx hb dX8_keeps_84 rfl ?_
        refine va_get (D := D) (ci := 12) (v := .int t_undos_w) (C := RX8) (T := TX8) (N := 22) hx hb hts iX8_keeps_X8 hown hK hP 0 rfl rfl 3 (by decide) (hts (.fieldLink RX8 42 "SkipArchiveModel" "undos" "I") (List.mem_of_getElem? (i := 1) rfl)) (fun _ h9 => h9) rfl dX8_keeps_85 ?_
        refine lv_iconst (v := 1) hx hb dX8_keeps_88 (by decide) ?_
        refine lv_iadd hx hb dX8_keeps_89 ?_
        refine va_put (D := D) (ci := 12) (v := .int (t_undos_w + (1 : Int32))) (ty := .int) (C := RX8) (T := TX8) (N := 22) hx hb hts iX8_keeps_X8 tyX8 tyX8_ok nmX8 hown hK hP hD hS 0 rfl rfl 3 (by decide) (hts (.fieldLink RX8 42 "SkipArchiveModel" "undos" "I") (List.mem_of_getElem? (i := 1) rfl)) (fun _ h9 => h9) rfl (by decide +kernel) rfl rfl (Nat.le_of_ble_eq_true rfl) dX8_keeps_90 (fun H locs hP hD hS => ?_)
        have hP : va_P D vwCl [(a_t, .inr (12, [.ref a_t_now, .ref a_t_tried, .ref a_t_kept, .int (t_undos_w + (1 : Int32)), .ref a_t_saved, .int t_isSaved, .ref a_t_line, .int t_lined, .ref a_t_text, .int t_length, .int t_at, .int t_order, .ref a_t_told, .int t_fault, .int t_reason, .int t_detail, .int t_index, .int t_answer, .int t_thrown, .ref a_t_way, .int t_went, .int t_fell])), (a_t_tried, .inl (y 0, 77, .inl t_tried)), (a_t_kept, .inl (y 0, 616, .inl t_kept_w))] H := hP
        have hD : va_D A [(a_t, .inr (12, [.ref a_t_now, .ref a_t_tried, .ref a_t_kept, .int (t_undos_w + (1 : Int32)), .ref a_t_saved, .int t_isSaved, .ref a_t_line, .int t_lined, .ref a_t_text, .int t_length, .int t_at, .int t_order, .ref a_t_told, .int t_fault, .int t_reason, .int t_detail, .int t_index, .int t_answer, .int t_thrown, .ref a_t_way, .int t_went, .int t_fell])), (a_t_tried, .inl (y 0, 77, .inl t_tried)), (a_t_kept, .inl (y 0, 616, .inl t_kept_w))] := hD
        refine lv_iload_n hx hb dX8_keeps_93 rfl (lv_at hl 1 rfl) ?_
        obtain ⟨e0_94, e1_94, e2_94⟩ := inj3 hF
        rw [← e0_94, ← e1_94, ← e2_94] at hQ0
        rw [hQ0]
        exact ret_i hx hb hr hlocks hAe hK hP hD hS [0, 1, 2] rfl rfl dX8_keeps_94
      · have hF := iff_ hF c_54
        refine lv_aload_n hx hb dX8_keeps_57 rfl (lv_at hl 0 rfl) ?_
        refine va_get (D := D) (ci := 12) (v := .ref a_t_kept) (C := RX8) (T := TX8) (N := 22) hx hb hts iX8_keeps_X8 hown hK hP 0 rfl rfl 2 (by decide) (hts (.fieldLink RX8 16 "SkipArchiveModel" "kept" "[I") (List.mem_of_getElem? (i := 2) rfl)) (fun _ h9 => h9) rfl dX8_keeps_58 ?_
        refine lv_bipush (v := 77) hx hb dX8_keeps_61 (by decide) ?_
        refine lv_aload_n hx hb dX8_keeps_63 rfl (lv_at hl 0 rfl) ?_
        refine va_get (D := D) (ci := 12) (v := .int t_undos_w) (C := RX8) (T := TX8) (N := 22) hx hb hts iX8_keeps_X8 hown hK hP 0 rfl rfl 3 (by decide) (hts (.fieldLink RX8 42 "SkipArchiveModel" "undos" "I") (List.mem_of_getElem? (i := 1) rfl)) (fun _ h9 => h9) rfl dX8_keeps_64 ?_
        refine lv_imul hx hb dX8_keeps_67 ?_
        refine lv_iload_n hx hb dX8_keeps_68 rfl (lv_at hl 2 rfl) ?_
        refine lv_iadd hx hb dX8_keeps_69 ?_
        refine lv_aload_n hx hb dX8_keeps_70 rfl (lv_at hl 0 rfl) ?_
        refine va_get (D := D) (ci := 12) (v := .ref a_t_tried) (C := RX8) (T := TX8) (N := 22) hx hb hts iX8_keeps_X8 hown hK hP 0 rfl rfl 1 (by decide) (hts (.fieldLink RX8 13 "SkipArchiveModel" "tried" "[I") (List.mem_of_getElem? (i := 3) rfl)) (fun _ h9 => h9) rfl dX8_keeps_71 ?_
        refine lv_iload_n hx hb dX8_keeps_74 rfl (lv_at hl 2 rfl) ?_
        obtain ⟨g_75, hF⟩ := gi_i hF
        refine va_iald hx hb hK hP 1 0 rfl rfl g_75 dX8_keeps_75 ?_
        obtain ⟨g_76, hF⟩ := gi_i hF
        refine va_iast hx hb hK hP hD hS 2 0 rfl rfl g_76 dX8_keeps_76 (fun H locs hP hD hS => ?_)
        have hP : va_P D vwCl [(a_t, .inr (12, [.ref a_t_now, .ref a_t_tried, .ref a_t_kept, .int t_undos_w, .ref a_t_saved, .int t_isSaved, .ref a_t_line, .int t_lined, .ref a_t_text, .int t_length, .int t_at, .int t_order, .ref a_t_told, .int t_fault, .int t_reason, .int t_detail, .int t_index, .int t_answer, .int t_thrown, .ref a_t_way, .int t_went, .int t_fell])), (a_t_tried, .inl (y 0, 77, .inl t_tried)), (a_t_kept, .inl (y 0, 616, .inl (upd t_kept_w (((77 : Int32) * t_undos_w) + x2).toNatClampNeg (t_tried x2.toNatClampNeg))))] H := hP
        have hD : va_D A [(a_t, .inr (12, [.ref a_t_now, .ref a_t_tried, .ref a_t_kept, .int t_undos_w, .ref a_t_saved, .int t_isSaved, .ref a_t_line, .int t_lined, .ref a_t_text, .int t_length, .int t_at, .int t_order, .ref a_t_told, .int t_fault, .int t_reason, .int t_detail, .int t_index, .int t_answer, .int t_thrown, .ref a_t_way, .int t_went, .int t_fell])), (a_t_tried, .inl (y 0, 77, .inl t_tried)), (a_t_kept, .inl (y 0, 616, .inl (upd t_kept_w (((77 : Int32) * t_undos_w) + x2).toNatClampNeg (t_tried x2.toNatClampNeg))))] := hD
        refine lv_iinc (v := x2 + (1 : Int32)) (lv' := [(2, .int (x2 + (1 : Int32))), (0, .ref a_t), (1, .int x1)]) hx hb dX8_keeps_77 hl (k := 2) rfl rfl (by decide) rfl (fun ls hl => ?_)
        refine lv_goto (tgt := 51) hx hb dX8_keeps_80 (by decide) ?_
        exact ih t_undos_w (upd t_kept_w (((77 : Int32) * t_undos_w) + x2).toNatClampNeg (t_tried x2.toNatClampNeg)) x1 (x2 + (1 : Int32)) hF _ _ hP hD hS ls (lv_sub hl [1, 2, 0] rfl)
  have k_11 : ∀ (n : Nat) (t_undos_w : Int32) (t_kept_w : Nat → Int32) (x1 : Int32) (x2 : Int32), F_X8_keeps_11 fl t_tried n t_undos_w t_kept_w x1 x2 = some (r, t_undos', t_kept') → ∀ (H : Heap) (locs : List Loc), va_P D vwCl [(a_t, .inr (12, [.ref a_t_now, .ref a_t_tried, .ref a_t_kept, .int t_undos_w, .ref a_t_saved, .int t_isSaved, .ref a_t_line, .int t_lined, .ref a_t_text, .int t_length, .int t_at, .int t_order, .ref a_t_told, .int t_fault, .int t_reason, .int t_detail, .int t_index, .int t_answer, .int t_thrown, .ref a_t_way, .int t_went, .int t_fell])), (a_t_tried, .inl (y 0, 77, .inl t_tried)), (a_t_kept, .inl (y 0, 616, .inl t_kept_w))] H → va_D A [(a_t, .inr (12, [.ref a_t_now, .ref a_t_tried, .ref a_t_kept, .int t_undos_w, .ref a_t_saved, .int t_isSaved, .ref a_t_line, .int t_lined, .ref a_t_text, .int t_length, .int t_at, .int t_order, .ref a_t_told, .int t_fault, .int t_reason, .int t_detail, .int t_index, .int t_answer, .int t_thrown, .ref a_t_way, .int t_went, .int t_fell])), (a_t_tried, .inl (y 0, 77, .inl t_tried)), (a_t_kept, .inl (y 0, 616, .inl t_kept_w))] → va_S A s.heap H locs → ∀ (ls : Array Slot), lv_has ls 3 [(0, .ref a_t), (1, .int x1), (2, .int x2)] → W p l e (rmq 0 0) s m args below meth c H locs 0 0 Q0 (F0 m 11 ls []) := by
    intro n
    induction n with
    | zero => intro t_undos_w t_kept_w x1 x2 hF; rw [F_X8_keeps_11] at hF; cases hF
    | succ n ih =>
      intro t_undos_w t_kept_w x1 x2 hF H locs hP hD hS ls hl
      rw [F_X8_keeps_11] at hF
      refine lv_iload_n hx hb dX8_keeps_11 rfl (lv_at hl 2 rfl) ?_
      refine lv_sipush (v := 539) hx hb dX8_keeps_12 (by decide) ?_
      refine lv_icmp_ge (tgt := 39) hx hb dX8_keeps_15 (by decide) (fun c_15 => ?_) (fun c_15 => ?_)
      · have hF := ift hF c_15
        refine lv_aload_n hx hb dX8_keeps_39 rfl (lv_at hl 0 rfl) ?_
        refine lv_dup hx hb dX8_keeps_40 rfl ?_
        refine va_get (D := D) (ci := 12) (v := .int t_undos_w) (C := RX8) (T := TX8) (N := 22) hx hb hts iX8_keeps_X8 hown hK hP 0 rfl rfl 3 (by decide) (hts (.fieldLink RX8 42 "SkipArchiveModel" "undos" "I") (List.mem_of_getElem? (i := 1) rfl)) (fun _ h9 => h9) rfl dX8_keeps_41 ?_
        refine lv_iconst (v := 1) hx hb dX8_keeps_44 (by decide) ?_
        refine lv_isub hx hb dX8_keeps_45 ?_
        refine va_put (D := D) (ci := 12) (v := .int (t_undos_w - (1 : Int32))) (ty := .int) (C := RX8) (T := TX8) (N := 22) hx hb hts iX8_keeps_X8 tyX8 tyX8_ok nmX8 hown hK hP hD hS 0 rfl rfl 3 (by decide) (hts (.fieldLink RX8 42 "SkipArchiveModel" "undos" "I") (List.mem_of_getElem? (i := 1) rfl)) (fun _ h9 => h9) rfl (by decide +kernel) rfl rfl (Nat.le_of_ble_eq_true rfl) dX8_keeps_46 (fun H locs hP hD hS => ?_)
        have hP : va_P D vwCl [(a_t, .inr (12, [.ref a_t_now, .ref a_t_tried, .ref a_t_kept, .int (t_undos_w - (1 : Int32)), .ref a_t_saved, .int t_isSaved, .ref a_t_line, .int t_lined, .ref a_t_text, .int t_length, .int t_at, .int t_order, .ref a_t_told, .int t_fault, .int t_reason, .int t_detail, .int t_index, .int t_answer, .int t_thrown, .ref a_t_way, .int t_went, .int t_fell])), (a_t_tried, .inl (y 0, 77, .inl t_tried)), (a_t_kept, .inl (y 0, 616, .inl t_kept_w))] H := hP
        have hD : va_D A [(a_t, .inr (12, [.ref a_t_now, .ref a_t_tried, .ref a_t_kept, .int (t_undos_w - (1 : Int32)), .ref a_t_saved, .int t_isSaved, .ref a_t_line, .int t_lined, .ref a_t_text, .int t_length, .int t_at, .int t_order, .ref a_t_told, .int t_fault, .int t_reason, .int t_detail, .int t_index, .int t_answer, .int t_thrown, .ref a_t_way, .int t_went, .int t_fell])), (a_t_tried, .inl (y 0, 77, .inl t_tried)), (a_t_kept, .inl (y 0, 616, .inl t_kept_w))] := hD
        refine lv_iconst (v := 0) hx hb dX8_keeps_49 (by decide) ?_
        refine lv_istore_n (lv' := [(2, .int (0 : Int32)), (0, .ref a_t), (1, .int x1)]) hx hb dX8_keeps_50 rfl hl (by decide) rfl (fun ls hl => ?_)
        exact k_51 fl (t_undos_w - (1 : Int32)) t_kept_w x1 (0 : Int32) hF _ _ hP hD hS ls (lv_sub hl [1, 2, 0] rfl)
      · have hF := iff_ hF c_15
        refine lv_aload_n hx hb dX8_keeps_18 rfl (lv_at hl 0 rfl) ?_
        refine va_get (D := D) (ci := 12) (v := .ref a_t_kept) (C := RX8) (T := TX8) (N := 22) hx hb hts iX8_keeps_X8 hown hK hP 0 rfl rfl 2 (by decide) (hts (.fieldLink RX8 16 "SkipArchiveModel" "kept" "[I") (List.mem_of_getElem? (i := 2) rfl)) (fun _ h9 => h9) rfl dX8_keeps_19 ?_
        refine lv_iload_n hx hb dX8_keeps_22 rfl (lv_at hl 2 rfl) ?_
        refine lv_aload_n hx hb dX8_keeps_23 rfl (lv_at hl 0 rfl) ?_
        refine va_get (D := D) (ci := 12) (v := .ref a_t_kept) (C := RX8) (T := TX8) (N := 22) hx hb hts iX8_keeps_X8 hown hK hP 0 rfl rfl 2 (by decide) (hts (.fieldLink RX8 16 "SkipArchiveModel" "kept" "[I") (List.mem_of_getElem? (i := 2) rfl)) (fun _ h9 => h9) rfl dX8_keeps_24 ?_
        refine lv_bipush (v := 77) hx hb dX8_keeps_27 (by decide) ?_
        refine lv_iload_n hx hb dX8_keeps_29 rfl (lv_at hl 2 rfl) ?_
        refine lv_iadd hx hb dX8_keeps_30 ?_
        obtain ⟨g_31, hF⟩ := gi_i hF
        refine va_iald hx hb hK hP 2 0 rfl rfl g_31 dX8_keeps_31 ?_
        obtain ⟨g_32, hF⟩ := gi_i hF
        refine va_iast hx hb hK hP hD hS 2 0 rfl rfl g_32 dX8_keeps_32 (fun H locs hP hD hS => ?_)
        have hP : va_P D vwCl [(a_t, .inr (12, [.ref a_t_now, .ref a_t_tried, .ref a_t_kept, .int t_undos_w, .ref a_t_saved, .int t_isSaved, .ref a_t_line, .int t_lined, .ref a_t_text, .int t_length, .int t_at, .int t_order, .ref a_t_told, .int t_fault, .int t_reason, .int t_detail, .int t_index, .int t_answer, .int t_thrown, .ref a_t_way, .int t_went, .int t_fell])), (a_t_tried, .inl (y 0, 77, .inl t_tried)), (a_t_kept, .inl (y 0, 616, .inl (upd t_kept_w x2.toNatClampNeg (t_kept_w ((77 : Int32) + x2).toNatClampNeg))))] H := hP
        have hD : va_D A [(a_t, .inr (12, [.ref a_t_now, .ref a_t_tried, .ref a_t_kept, .int t_undos_w, .ref a_t_saved, .int t_isSaved, .ref a_t_line, .int t_lined, .ref a_t_text, .int t_length, .int t_at, .int t_order, .ref a_t_told, .int t_fault, .int t_reason, .int t_detail, .int t_index, .int t_answer, .int t_thrown, .ref a_t_way, .int t_went, .int t_fell])), (a_t_tried, .inl (y 0, 77, .inl t_tried)), (a_t_kept, .inl (y 0, 616, .inl (upd t_kept_w x2.toNatClampNeg (t_kept_w ((77 : Int32) + x2).toNatClampNeg))))] := hD
        refine lv_iinc (v := x2 + (1 : Int32)) (lv' := [(2, .int (x2 + (1 : Int32))), (0, .ref a_t), (1, .int x1)]) hx hb dX8_keeps_33 hl (k := 2) rfl rfl (by decide) rfl (fun ls hl => ?_)
        refine lv_goto (tgt := 11) hx hb dX8_keeps_36 (by decide) ?_
        exact ih t_undos_w (upd t_kept_w x2.toNatClampNeg (t_kept_w ((77 : Int32) + x2).toNatClampNeg)) x1 (x2 + (1 : Int32)) hF _ _ hP hD hS ls (lv_sub hl [1, 2, 0] rfl)
  refine W_entry hav (Nat.le_of_ble_eq_true rfl) (fun ls hl => ?_)
  have hl : lv_has ls 3 [(0, .ref a_t), (1, .int p1)] := hl
  refine lv_aload_n hx hb dX8_keeps_0 rfl (lv_at hl 0 rfl) ?_
  refine va_get (D := D) (ci := 12) (v := .int t_undos) (C := RX8) (T := TX8) (N := 22) hx hb hts iX8_keeps_X8 hown hK hP 0 rfl rfl 3 (by decide) (hts (.fieldLink RX8 42 "SkipArchiveModel" "undos" "I") (List.mem_of_getElem? (i := 1) rfl)) (fun _ h9 => h9) rfl dX8_keeps_1 ?_
  refine lv_bipush (v := 8) hx hb dX8_keeps_4 (by decide) ?_
  refine lv_icmp_ne (tgt := 49) hx hb dX8_keeps_6 (by decide) (fun c_6 => ?_) (fun c_6 => ?_)
  · have hF := iff_ hF c_6
    refine lv_iconst (v := 0) hx hb dX8_keeps_49 (by decide) ?_
    refine lv_istore_n (lv' := [(2, .int (0 : Int32)), (0, .ref a_t), (1, .int p1)]) hx hb dX8_keeps_50 rfl hl (by decide) rfl (fun ls hl => ?_)
    exact k_51 fl t_undos t_kept p1 (0 : Int32) hF _ _ hP hD hS ls (lv_sub hl [1, 2, 0] rfl)
  · have hF := ift hF c_6
    refine lv_iconst (v := 0) hx hb dX8_keeps_9 (by decide) ?_
    refine lv_istore_n (lv' := [(2, .int (0 : Int32)), (0, .ref a_t), (1, .int p1)]) hx hb dX8_keeps_10 rfl hl (by decide) rfl (fun ls hl => ?_)
    exact k_11 fl t_undos t_kept p1 (0 : Int32) hF _ _ hP hD hS ls (lv_sub hl [1, 2, 0] rfl)
def F_X8_does (fl : Nat) (t_answer : Int32) (p1 : Int32) : Option (Int32 × Int32) := some ((1 : Int32), p1)
theorem iX8_does_X8 : ∀ w ∈ u_ws RX8 TX8 22, w ∈ wsX8_does := fun w h => List.mem_cons_of_mem _ (List.mem_append_right _ h)
set_option maxHeartbeats 4000000 in
set_option maxRecDepth 100000 in
theorem c_X8_does (l : Launch) (D : va_G) (y : Nat → ClassId) (fl : Nat) (sz : Nat) (a_t : Nat) (a_t_now : Nat) (a_t_tried : Nat) (a_t_kept : Nat) (a_t_saved : Nat) (a_t_line : Nat) (a_t_text : Nat) (a_t_told : Nat) (a_t_way : Nat) (t_undos : Int32) (t_isSaved : Int32) (t_lined : Int32) (t_length : Int32) (t_at : Int32) (t_order : Int32) (t_fault : Int32) (t_reason : Int32) (t_detail : Int32) (t_index : Int32) (t_answer : Int32) (t_thrown : Int32) (t_went : Int32) (t_fell : Int32) (p1 : Int32) (r : Int32) (t_answer' : Int32) (hF : F_X8_does fl t_answer p1 = some (r, t_answer')) : Met l yX8_does wsX8_does (rmq 0 0) (wrP D y [(a_t, .inr (12, [.ref a_t_now, .ref a_t_tried, .ref a_t_kept, .int t_undos, .ref a_t_saved, .int t_isSaved, .ref a_t_line, .int t_lined, .ref a_t_text, .int t_length, .int t_at, .int t_order, .ref a_t_told, .int t_fault, .int t_reason, .int t_detail, .int t_index, .int t_answer, .int t_thrown, .ref a_t_way, .int t_went, .int t_fell]))] sz [.ref a_t, .int p1]) (wQi D y r [(a_t, .inr (12, [.ref a_t_now, .ref a_t_tried, .ref a_t_kept, .int t_undos, .ref a_t_saved, .int t_isSaved, .ref a_t_line, .int t_lined, .ref a_t_text, .int t_length, .int t_at, .int t_order, .ref a_t_told, .int t_fault, .int t_reason, .int t_detail, .int t_index, .int t_answer', .int t_thrown, .ref a_t_way, .int t_went, .int t_fell]))] [(a_t, .inr (12, [.ref a_t_now, .ref a_t_tried, .ref a_t_kept, .int t_undos, .ref a_t_saved, .int t_isSaved, .ref a_t_line, .int t_lined, .ref a_t_text, .int t_length, .int t_at, .int t_order, .ref a_t_told, .int t_fault, .int t_reason, .int t_detail, .int t_index, .int t_answer, .int t_thrown, .ref a_t_way, .int t_went, .int t_fell]))] sz) 0 0 (va_A [(a_t, .inr (12, [.ref a_t_now, .ref a_t_tried, .ref a_t_kept, .int t_undos, .ref a_t_saved, .int t_isSaved, .ref a_t_line, .int t_lined, .ref a_t_text, .int t_length, .int t_at, .int t_order, .ref a_t_told, .int t_fault, .int t_reason, .int t_detail, .int t_index, .int t_answer, .int t_thrown, .ref a_t_way, .int t_went, .int t_fell]))] sz) := by
  refine Met.ofW (cc := cX8_does) (maxL := 2) (ret := (some .boolean)) (by decide) rfl ?_
  intro p e s m args below meth c s₁ B hml hv
  obtain ⟨hav, hsz, hP, hK, hD0⟩ := hv
  have hx := B.exec
  have hb := B.bytes
  have hr := B.returns
  have hts := atoms_spec (ws := wsX8_does) B.pre
  have hown : s.vm.findClass RX8 = some m.cls := findClass_of_methodNamed B.named
  have hlocks := B.notSynchronized
  subst hsz
  have hD := hD0.self (sz := s.heap.size)
  obtain ⟨A, hAe⟩ : ∃ A : Nat → Prop, va_A [(a_t, .inr (12, [.ref a_t_now, .ref a_t_tried, .ref a_t_kept, .int t_undos, .ref a_t_saved, .int t_isSaved, .ref a_t_line, .int t_lined, .ref a_t_text, .int t_length, .int t_at, .int t_order, .ref a_t_told, .int t_fault, .int t_reason, .int t_detail, .int t_index, .int t_answer, .int t_thrown, .ref a_t_way, .int t_went, .int t_fell]))] s.heap.size = A := ⟨_, rfl⟩
  rw [hAe] at hD
  have hA : ∀ q, s.heap.size ≤ q → A q := fun q h => by rw [← hAe]; exact Or.inr h
  have hS : va_S A s.heap s.heap [] := va_S.rf
  refine W_q (R1 := (rmq 0 0)) rfl (fun Q0 hQ0 => ?_)
  unfold F_X8_does at hF
  refine W_entry hav (Nat.le_of_ble_eq_true rfl) (fun ls hl => ?_)
  have hl : lv_has ls 2 [(0, .ref a_t), (1, .int p1)] := hl
  refine lv_aload_n hx hb dX8_does_0 rfl (lv_at hl 0 rfl) ?_
  refine lv_iload_n hx hb dX8_does_1 rfl (lv_at hl 1 rfl) ?_
  refine va_put (D := D) (ci := 12) (v := .int p1) (ty := .int) (C := RX8) (T := TX8) (N := 22) hx hb hts iX8_does_X8 tyX8 tyX8_ok nmX8 hown hK hP hD hS 0 rfl rfl 17 (by decide) (hts (.fieldLink RX8 45 "SkipArchiveModel" "answer" "I") (List.mem_of_getElem? (i := 1) rfl)) (fun _ h9 => h9) rfl (by decide +kernel) rfl rfl (Nat.le_of_ble_eq_true rfl) dX8_does_2 (fun H locs hP hD hS => ?_)
  have hP : va_P D vwCl [(a_t, .inr (12, [.ref a_t_now, .ref a_t_tried, .ref a_t_kept, .int t_undos, .ref a_t_saved, .int t_isSaved, .ref a_t_line, .int t_lined, .ref a_t_text, .int t_length, .int t_at, .int t_order, .ref a_t_told, .int t_fault, .int t_reason, .int t_detail, .int t_index, .int p1, .int t_thrown, .ref a_t_way, .int t_went, .int t_fell]))] H := hP
  have hD : va_D A [(a_t, .inr (12, [.ref a_t_now, .ref a_t_tried, .ref a_t_kept, .int t_undos, .ref a_t_saved, .int t_isSaved, .ref a_t_line, .int t_lined, .ref a_t_text, .int t_length, .int t_at, .int t_order, .ref a_t_told, .int t_fault, .int t_reason, .int t_detail, .int t_index, .int p1, .int t_thrown, .ref a_t_way, .int t_went, .int t_fell]))] := hD
  refine lv_iconst (v := 1) hx hb dX8_does_5 (by decide) ?_
  obtain ⟨e0_6, e1_6⟩ := inj2 hF
  rw [← e0_6, ← e1_6] at hQ0
  rw [hQ0]
  exact ret_z hx hb hr (by decide +kernel) hlocks hAe hK hP hD hS [0] rfl rfl dX8_does_6
def F_X8_refuses (fl : Nat) (t_reason : Int32) (t_detail : Int32) (t_index : Int32) (p1 : Int32) (p2 : Int32) : Option (Int32 × Int32 × Int32 × Int32) := some ((0 : Int32), p1, p2, (0 : Int32))
theorem iX8_refuses_X8 : ∀ w ∈ u_ws RX8 TX8 22, w ∈ wsX8_refuses := fun w h => List.mem_cons_of_mem _ (List.mem_append_right _ h)
set_option maxHeartbeats 4000000 in
set_option maxRecDepth 100000 in
theorem c_X8_refuses (l : Launch) (D : va_G) (y : Nat → ClassId) (fl : Nat) (sz : Nat) (a_t : Nat) (a_t_now : Nat) (a_t_tried : Nat) (a_t_kept : Nat) (a_t_saved : Nat) (a_t_line : Nat) (a_t_text : Nat) (a_t_told : Nat) (a_t_way : Nat) (t_undos : Int32) (t_isSaved : Int32) (t_lined : Int32) (t_length : Int32) (t_at : Int32) (t_order : Int32) (t_fault : Int32) (t_reason : Int32) (t_detail : Int32) (t_index : Int32) (t_answer : Int32) (t_thrown : Int32) (t_went : Int32) (t_fell : Int32) (p1 : Int32) (p2 : Int32) (r : Int32) (t_reason' : Int32) (t_detail' : Int32) (t_index' : Int32) (hF : F_X8_refuses fl t_reason t_detail t_index p1 p2 = some (r, t_reason', t_detail', t_index')) : Met l yX8_refuses wsX8_refuses (rmq 0 0) (wrP D y [(a_t, .inr (12, [.ref a_t_now, .ref a_t_tried, .ref a_t_kept, .int t_undos, .ref a_t_saved, .int t_isSaved, .ref a_t_line, .int t_lined, .ref a_t_text, .int t_length, .int t_at, .int t_order, .ref a_t_told, .int t_fault, .int t_reason, .int t_detail, .int t_index, .int t_answer, .int t_thrown, .ref a_t_way, .int t_went, .int t_fell]))] sz [.ref a_t, .int p1, .int p2]) (wQi D y r [(a_t, .inr (12, [.ref a_t_now, .ref a_t_tried, .ref a_t_kept, .int t_undos, .ref a_t_saved, .int t_isSaved, .ref a_t_line, .int t_lined, .ref a_t_text, .int t_length, .int t_at, .int t_order, .ref a_t_told, .int t_fault, .int t_reason', .int t_detail', .int t_index', .int t_answer, .int t_thrown, .ref a_t_way, .int t_went, .int t_fell]))] [(a_t, .inr (12, [.ref a_t_now, .ref a_t_tried, .ref a_t_kept, .int t_undos, .ref a_t_saved, .int t_isSaved, .ref a_t_line, .int t_lined, .ref a_t_text, .int t_length, .int t_at, .int t_order, .ref a_t_told, .int t_fault, .int t_reason, .int t_detail, .int t_index, .int t_answer, .int t_thrown, .ref a_t_way, .int t_went, .int t_fell]))] sz) 0 0 (va_A [(a_t, .inr (12, [.ref a_t_now, .ref a_t_tried, .ref a_t_kept, .int t_undos, .ref a_t_saved, .int t_isSaved, .ref a_t_line, .int t_lined, .ref a_t_text, .int t_length, .int t_at, .int t_order, .ref a_t_told, .int t_fault, .int t_reason, .int t_detail, .int t_index, .int t_answer, .int t_thrown, .ref a_t_way, .int t_went, .int t_fell]))] sz) := by
  refine Met.ofW (cc := cX8_refuses) (maxL := 3) (ret := (some .boolean)) (by decide) rfl ?_
  intro p e s m args below meth c s₁ B hml hv
  obtain ⟨hav, hsz, hP, hK, hD0⟩ := hv
  have hx := B.exec
  have hb := B.bytes
  have hr := B.returns
  have hts := atoms_spec (ws := wsX8_refuses) B.pre
  have hown : s.vm.findClass RX8 = some m.cls := findClass_of_methodNamed B.named
  have hlocks := B.notSynchronized
  subst hsz
  have hD := hD0.self (sz := s.heap.size)
  obtain ⟨A, hAe⟩ : ∃ A : Nat → Prop, va_A [(a_t, .inr (12, [.ref a_t_now, .ref a_t_tried, .ref a_t_kept, .int t_undos, .ref a_t_saved, .int t_isSaved, .ref a_t_line, .int t_lined, .ref a_t_text, .int t_length, .int t_at, .int t_order, .ref a_t_told, .int t_fault, .int t_reason, .int t_detail, .int t_index, .int t_answer, .int t_thrown, .ref a_t_way, .int t_went, .int t_fell]))] s.heap.size = A := ⟨_, rfl⟩
  rw [hAe] at hD
  have hA : ∀ q, s.heap.size ≤ q → A q := fun q h => by rw [← hAe]; exact Or.inr h
  have hS : va_S A s.heap s.heap [] := va_S.rf
  refine W_q (R1 := (rmq 0 0)) rfl (fun Q0 hQ0 => ?_)
  unfold F_X8_refuses at hF
  refine W_entry hav (Nat.le_of_ble_eq_true rfl) (fun ls hl => ?_)
  have hl : lv_has ls 3 [(0, .ref a_t), (1, .int p1), (2, .int p2)] := hl
  refine lv_aload_n hx hb dX8_refuses_0 rfl (lv_at hl 0 rfl) ?_
  refine lv_iload_n hx hb dX8_refuses_1 rfl (lv_at hl 1 rfl) ?_
  refine va_put (D := D) (ci := 12) (v := .int p1) (ty := .int) (C := RX8) (T := TX8) (N := 22) hx hb hts iX8_refuses_X8 tyX8 tyX8_ok nmX8 hown hK hP hD hS 0 rfl rfl 14 (by decide) (hts (.fieldLink RX8 48 "SkipArchiveModel" "reason" "I") (List.mem_of_getElem? (i := 1) rfl)) (fun _ h9 => h9) rfl (by decide +kernel) rfl rfl (Nat.le_of_ble_eq_true rfl) dX8_refuses_2 (fun H locs hP hD hS => ?_)
  have hP : va_P D vwCl [(a_t, .inr (12, [.ref a_t_now, .ref a_t_tried, .ref a_t_kept, .int t_undos, .ref a_t_saved, .int t_isSaved, .ref a_t_line, .int t_lined, .ref a_t_text, .int t_length, .int t_at, .int t_order, .ref a_t_told, .int t_fault, .int p1, .int t_detail, .int t_index, .int t_answer, .int t_thrown, .ref a_t_way, .int t_went, .int t_fell]))] H := hP
  have hD : va_D A [(a_t, .inr (12, [.ref a_t_now, .ref a_t_tried, .ref a_t_kept, .int t_undos, .ref a_t_saved, .int t_isSaved, .ref a_t_line, .int t_lined, .ref a_t_text, .int t_length, .int t_at, .int t_order, .ref a_t_told, .int t_fault, .int p1, .int t_detail, .int t_index, .int t_answer, .int t_thrown, .ref a_t_way, .int t_went, .int t_fell]))] := hD
  refine lv_aload_n hx hb dX8_refuses_5 rfl (lv_at hl 0 rfl) ?_
  refine lv_iload_n hx hb dX8_refuses_6 rfl (lv_at hl 2 rfl) ?_
  refine va_put (D := D) (ci := 12) (v := .int p2) (ty := .int) (C := RX8) (T := TX8) (N := 22) hx hb hts iX8_refuses_X8 tyX8 tyX8_ok nmX8 hown hK hP hD hS 0 rfl rfl 15 (by decide) (hts (.fieldLink RX8 51 "SkipArchiveModel" "detail" "I") (List.mem_of_getElem? (i := 2) rfl)) (fun _ h9 => h9) rfl (by decide +kernel) rfl rfl (Nat.le_of_ble_eq_true rfl) dX8_refuses_7 (fun H locs hP hD hS => ?_)
  have hP : va_P D vwCl [(a_t, .inr (12, [.ref a_t_now, .ref a_t_tried, .ref a_t_kept, .int t_undos, .ref a_t_saved, .int t_isSaved, .ref a_t_line, .int t_lined, .ref a_t_text, .int t_length, .int t_at, .int t_order, .ref a_t_told, .int t_fault, .int p1, .int p2, .int t_index, .int t_answer, .int t_thrown, .ref a_t_way, .int t_went, .int t_fell]))] H := hP
  have hD : va_D A [(a_t, .inr (12, [.ref a_t_now, .ref a_t_tried, .ref a_t_kept, .int t_undos, .ref a_t_saved, .int t_isSaved, .ref a_t_line, .int t_lined, .ref a_t_text, .int t_length, .int t_at, .int t_order, .ref a_t_told, .int t_fault, .int p1, .int p2, .int t_index, .int t_answer, .int t_thrown, .ref a_t_way, .int t_went, .int t_fell]))] := hD
  refine lv_aload_n hx hb dX8_refuses_10 rfl (lv_at hl 0 rfl) ?_
  refine lv_iconst (v := 0) hx hb dX8_refuses_11 (by decide) ?_
  refine va_put (D := D) (ci := 12) (v := .int (0 : Int32)) (ty := .int) (C := RX8) (T := TX8) (N := 22) hx hb hts iX8_refuses_X8 tyX8 tyX8_ok nmX8 hown hK hP hD hS 0 rfl rfl 16 (by decide) (hts (.fieldLink RX8 54 "SkipArchiveModel" "index" "I") (List.mem_of_getElem? (i := 3) rfl)) (fun _ h9 => h9) rfl (by decide +kernel) rfl rfl (Nat.le_of_ble_eq_true rfl) dX8_refuses_12 (fun H locs hP hD hS => ?_)
  have hP : va_P D vwCl [(a_t, .inr (12, [.ref a_t_now, .ref a_t_tried, .ref a_t_kept, .int t_undos, .ref a_t_saved, .int t_isSaved, .ref a_t_line, .int t_lined, .ref a_t_text, .int t_length, .int t_at, .int t_order, .ref a_t_told, .int t_fault, .int p1, .int p2, .int (0 : Int32), .int t_answer, .int t_thrown, .ref a_t_way, .int t_went, .int t_fell]))] H := hP
  have hD : va_D A [(a_t, .inr (12, [.ref a_t_now, .ref a_t_tried, .ref a_t_kept, .int t_undos, .ref a_t_saved, .int t_isSaved, .ref a_t_line, .int t_lined, .ref a_t_text, .int t_length, .int t_at, .int t_order, .ref a_t_told, .int t_fault, .int p1, .int p2, .int (0 : Int32), .int t_answer, .int t_thrown, .ref a_t_way, .int t_went, .int t_fell]))] := hD
  refine lv_iconst (v := 0) hx hb dX8_refuses_15 (by decide) ?_
  obtain ⟨e0_16, e1_16, e2_16, e3_16⟩ := inj4 hF
  rw [← e0_16, ← e1_16, ← e2_16, ← e3_16] at hQ0
  rw [hQ0]
  exact ret_z hx hb hr (by decide +kernel) hlocks hAe hK hP hD hS [0] rfl rfl dX8_refuses_16
def F_X8_ends (fl : Nat) (t_undos : Int32) (t_answer : Int32) (t_thrown : Int32) (t_tried : Nat → Int32) (t_kept : Nat → Int32) (p1 : Int32) : Option (Int32 × Int32 × Int32 × (Nat → Int32)) := if p1 = 0 then (bn2 (F_X8_raises fl t_thrown (1 : Int32)) fun r_17 t_thrown_17 => some (r_17, t_undos, t_thrown_17, t_kept)) else (bn3 (F_X8_keeps fl t_undos t_tried t_kept t_answer) fun r_9 t_undos_9 t_kept_9 => some (r_9, t_undos_9, t_thrown, t_kept_9))
theorem iX8_ends_X8 : ∀ w ∈ u_ws RX8 TX8 22, w ∈ wsX8_ends := fun w h => List.mem_cons_of_mem _ (List.mem_append_left _ (List.mem_append_right _ h))
set_option maxHeartbeats 4000000 in
set_option maxRecDepth 100000 in
theorem c_X8_ends (l : Launch) (D : va_G) (y : Nat → ClassId) (fl : Nat) (sz : Nat) (a_t : Nat) (a_t_now : Nat) (a_t_tried : Nat) (a_t_kept : Nat) (a_t_saved : Nat) (a_t_line : Nat) (a_t_text : Nat) (a_t_told : Nat) (a_t_way : Nat) (t_undos : Int32) (t_isSaved : Int32) (t_lined : Int32) (t_length : Int32) (t_at : Int32) (t_order : Int32) (t_fault : Int32) (t_reason : Int32) (t_detail : Int32) (t_index : Int32) (t_answer : Int32) (t_thrown : Int32) (t_went : Int32) (t_fell : Int32) (t_tried : Nat → Int32) (t_kept : Nat → Int32) (p1 : Int32) (r : Int32) (t_undos' : Int32) (t_thrown' : Int32) (t_kept' : Nat → Int32) (hF : F_X8_ends fl t_undos t_answer t_thrown t_tried t_kept p1 = some (r, t_undos', t_thrown', t_kept')) : Met l yX8_ends wsX8_ends (rmq 1 22) (wrP D y [(a_t, .inr (12, [.ref a_t_now, .ref a_t_tried, .ref a_t_kept, .int t_undos, .ref a_t_saved, .int t_isSaved, .ref a_t_line, .int t_lined, .ref a_t_text, .int t_length, .int t_at, .int t_order, .ref a_t_told, .int t_fault, .int t_reason, .int t_detail, .int t_index, .int t_answer, .int t_thrown, .ref a_t_way, .int t_went, .int t_fell])), (a_t_tried, .inl (y 0, 77, .inl t_tried)), (a_t_kept, .inl (y 0, 616, .inl t_kept))] sz [.ref a_t, .int p1]) (wQi D y r [(a_t, .inr (12, [.ref a_t_now, .ref a_t_tried, .ref a_t_kept, .int t_undos', .ref a_t_saved, .int t_isSaved, .ref a_t_line, .int t_lined, .ref a_t_text, .int t_length, .int t_at, .int t_order, .ref a_t_told, .int t_fault, .int t_reason, .int t_detail, .int t_index, .int t_answer, .int t_thrown', .ref a_t_way, .int t_went, .int t_fell])), (a_t_tried, .inl (y 0, 77, .inl t_tried)), (a_t_kept, .inl (y 0, 616, .inl t_kept'))] [(a_t, .inr (12, [.ref a_t_now, .ref a_t_tried, .ref a_t_kept, .int t_undos, .ref a_t_saved, .int t_isSaved, .ref a_t_line, .int t_lined, .ref a_t_text, .int t_length, .int t_at, .int t_order, .ref a_t_told, .int t_fault, .int t_reason, .int t_detail, .int t_index, .int t_answer, .int t_thrown, .ref a_t_way, .int t_went, .int t_fell])), (a_t_tried, .inl (y 0, 77, .inl t_tried)), (a_t_kept, .inl (y 0, 616, .inl t_kept))] sz) 0 0 (va_A [(a_t, .inr (12, [.ref a_t_now, .ref a_t_tried, .ref a_t_kept, .int t_undos, .ref a_t_saved, .int t_isSaved, .ref a_t_line, .int t_lined, .ref a_t_text, .int t_length, .int t_at, .int t_order, .ref a_t_told, .int t_fault, .int t_reason, .int t_detail, .int t_index, .int t_answer, .int t_thrown, .ref a_t_way, .int t_went, .int t_fell])), (a_t_tried, .inl (y 0, 77, .inl t_tried)), (a_t_kept, .inl (y 0, 616, .inl t_kept))] sz) := by
  refine Met.ofW (cc := cX8_ends) (maxL := 2) (ret := (some .int)) (by decide) rfl ?_
  intro p e s m args below meth c s₁ B hml hv
  obtain ⟨hav, hsz, hP, hK, hD0⟩ := hv
  have hx := B.exec
  have hb := B.bytes
  have hr := B.returns
  have hts := atoms_spec (ws := wsX8_ends) B.pre
  have hown : s.vm.findClass RX8 = some m.cls := findClass_of_methodNamed B.named
  have hlocks := B.notSynchronized
  subst hsz
  have hD := hD0.self (sz := s.heap.size)
  obtain ⟨A, hAe⟩ : ∃ A : Nat → Prop, va_A [(a_t, .inr (12, [.ref a_t_now, .ref a_t_tried, .ref a_t_kept, .int t_undos, .ref a_t_saved, .int t_isSaved, .ref a_t_line, .int t_lined, .ref a_t_text, .int t_length, .int t_at, .int t_order, .ref a_t_told, .int t_fault, .int t_reason, .int t_detail, .int t_index, .int t_answer, .int t_thrown, .ref a_t_way, .int t_went, .int t_fell])), (a_t_tried, .inl (y 0, 77, .inl t_tried)), (a_t_kept, .inl (y 0, 616, .inl t_kept))] s.heap.size = A := ⟨_, rfl⟩
  rw [hAe] at hD
  have hA : ∀ q, s.heap.size ≤ q → A q := fun q h => by rw [← hAe]; exact Or.inr h
  have hS : va_S A s.heap s.heap [] := va_S.rf
  refine W_q (R1 := (rmq 1 22)) rfl (fun Q0 hQ0 => ?_)
  unfold F_X8_ends at hF
  refine W_entry hav (Nat.le_of_ble_eq_true rfl) (fun ls hl => ?_)
  have hl : lv_has ls 2 [(0, .ref a_t), (1, .int p1)] := hl
  refine lv_iload_n hx hb dX8_ends_0 rfl (lv_at hl 1 rfl) ?_
  refine lv_if_eq (tgt := 15) hx hb dX8_ends_1 (by decide) (fun c_1 => ?_) (fun c_1 => ?_)
  · have hF := ift hF c_1
    refine lv_aload_n hx hb dX8_ends_15 rfl (lv_at hl 0 rfl) ?_
    refine lv_iconst (v := 1) hx hb dX8_ends_16 (by decide) ?_
    obtain ⟨r_17, t_thrown_17, hq_17, hF⟩ := bn2_i hF
    refine cm_Vi (As := [.int (1 : Int32)]) (rest := []) (wr := [(a_t_tried, .inl (y 0, 77, .inl t_tried)), (a_t_kept, .inl (y 0, 616, .inl t_kept))]) ⟨hx, hb, hml, hown, hts⟩ (c_X8_raises l D y fl s.heap.size a_t a_t_now a_t_tried a_t_kept a_t_saved a_t_line a_t_text a_t_told a_t_way t_undos t_isSaved t_lined t_length t_at t_order t_fault t_reason t_detail t_index t_answer t_thrown t_went t_fell (1 : Int32) r_17 t_thrown_17 hq_17) (cwV 1 hts gX8_ends_X8_raises rfl rfl rfl (by decide +kernel) ⟨Nat.le_of_ble_eq_true rfl, Nat.le_of_ble_eq_true rfl⟩) hK hP hD hS hA [0] [1, 2] rfl rfl rfl rfl (by decide) rfl rfl rfl hl.1 rfl (Nat.le_of_ble_eq_true rfl) dX8_ends_17 ⟨Nat.le_of_ble_eq_true rfl, Nat.le_of_ble_eq_true rfl⟩ (fun H locs hP hD hS => ?_)
    have hP : va_P D vwCl [(a_t_tried, .inl (y 0, 77, .inl t_tried)), (a_t_kept, .inl (y 0, 616, .inl t_kept)), (a_t, .inr (12, [.ref a_t_now, .ref a_t_tried, .ref a_t_kept, .int t_undos, .ref a_t_saved, .int t_isSaved, .ref a_t_line, .int t_lined, .ref a_t_text, .int t_length, .int t_at, .int t_order, .ref a_t_told, .int t_fault, .int t_reason, .int t_detail, .int t_index, .int t_answer, .int t_thrown_17, .ref a_t_way, .int t_went, .int t_fell]))] H := hP
    have hD : va_D A [(a_t_tried, .inl (y 0, 77, .inl t_tried)), (a_t_kept, .inl (y 0, 616, .inl t_kept)), (a_t, .inr (12, [.ref a_t_now, .ref a_t_tried, .ref a_t_kept, .int t_undos, .ref a_t_saved, .int t_isSaved, .ref a_t_line, .int t_lined, .ref a_t_text, .int t_length, .int t_at, .int t_order, .ref a_t_told, .int t_fault, .int t_reason, .int t_detail, .int t_index, .int t_answer, .int t_thrown_17, .ref a_t_way, .int t_went, .int t_fell]))] := hD
    obtain ⟨e0_20, e1_20, e2_20, e3_20⟩ := inj4 hF
    rw [← e0_20, ← e1_20, ← e2_20, ← e3_20] at hQ0
    rw [hQ0]
    exact ret_i hx hb hr hlocks hAe hK hP hD hS [2, 0, 1] rfl rfl dX8_ends_20
  · have hF := iff_ hF c_1
    refine lv_aload_n hx hb dX8_ends_4 rfl (lv_at hl 0 rfl) ?_
    refine lv_aload_n hx hb dX8_ends_5 rfl (lv_at hl 0 rfl) ?_
    refine va_get (D := D) (ci := 12) (v := .int t_answer) (C := RX8) (T := TX8) (N := 22) hx hb hts iX8_ends_X8 hown hK hP 0 rfl rfl 17 (by decide) (hts (.fieldLink RX8 45 "SkipArchiveModel" "answer" "I") (List.mem_of_getElem? (i := 1) rfl)) (fun _ h9 => h9) rfl dX8_ends_6 ?_
    obtain ⟨r_9, t_undos_9, t_kept_9, hq_9, hF⟩ := bn3_i hF
    refine cm_Vi (As := [.int t_answer]) (rest := []) (wr := []) ⟨hx, hb, hml, hown, hts⟩ (c_X8_keeps l D y fl s.heap.size a_t a_t_now a_t_tried a_t_kept a_t_saved a_t_line a_t_text a_t_told a_t_way t_undos t_isSaved t_lined t_length t_at t_order t_fault t_reason t_detail t_index t_answer t_thrown t_went t_fell t_tried t_kept t_answer r_9 t_undos_9 t_kept_9 hq_9) (cwV 1 hts gX8_ends_X8_keeps rfl rfl rfl (by decide +kernel) ⟨Nat.le_of_ble_eq_true rfl, Nat.le_of_ble_eq_true rfl⟩) hK hP hD hS hA [0, 1, 2] [] rfl rfl rfl rfl (by decide) rfl rfl rfl hl.1 rfl (Nat.le_of_ble_eq_true rfl) dX8_ends_9 ⟨Nat.le_of_ble_eq_true rfl, Nat.le_of_ble_eq_true rfl⟩ (fun H locs hP hD hS => ?_)
    have hP : va_P D vwCl [(a_t, .inr (12, [.ref a_t_now, .ref a_t_tried, .ref a_t_kept, .int t_undos_9, .ref a_t_saved, .int t_isSaved, .ref a_t_line, .int t_lined, .ref a_t_text, .int t_length, .int t_at, .int t_order, .ref a_t_told, .int t_fault, .int t_reason, .int t_detail, .int t_index, .int t_answer, .int t_thrown, .ref a_t_way, .int t_went, .int t_fell])), (a_t_tried, .inl (y 0, 77, .inl t_tried)), (a_t_kept, .inl (y 0, 616, .inl t_kept_9))] H := hP
    have hD : va_D A [(a_t, .inr (12, [.ref a_t_now, .ref a_t_tried, .ref a_t_kept, .int t_undos_9, .ref a_t_saved, .int t_isSaved, .ref a_t_line, .int t_lined, .ref a_t_text, .int t_length, .int t_at, .int t_order, .ref a_t_told, .int t_fault, .int t_reason, .int t_detail, .int t_index, .int t_answer, .int t_thrown, .ref a_t_way, .int t_went, .int t_fell])), (a_t_tried, .inl (y 0, 77, .inl t_tried)), (a_t_kept, .inl (y 0, 616, .inl t_kept_9))] := hD
    refine lv_goto (tgt := 20) hx hb dX8_ends_12 (by decide) ?_
    obtain ⟨e0_20, e1_20, e2_20, e3_20⟩ := inj4 hF
    rw [← e0_20, ← e1_20, ← e2_20, ← e3_20] at hQ0
    rw [hQ0]
    exact ret_i hx hb hr hlocks hAe hK hP hD hS [0, 1, 2] rfl rfl dX8_ends_20
def F_X8_files_125 (fl : Nat) : Nat → Int32 → Int32 → Int32 → Int32 → (Nat → Int32) → Int32 → Int32 → Int32 → Int32 → Int32 → Int32 → Int32 → Option (Int32 × Int32 × Int32 × Int32 × Int32 × (Nat → Int32))
  | 0, _, _, _, _, _, _, _, _, _, _, _, _ => none
  | n + 1, t_reason_w, t_detail_w, t_index_w, t_answer_w, t_now_w, x1, x2, x3, x4, x5, x6, x7 => if x7 < ((5 : Int32) + ((3 : Int32) * x6)) then (gi (0 : Int32) 77 (gi (0 : Int32) 77 (gi ((5 : Int32) + ((3 : Int32) * x6)) 77 (gi (((5 : Int32) + ((3 : Int32) * x6)) + (1 : Int32)) 77 (gi (((5 : Int32) + ((3 : Int32) * x6)) + (2 : Int32)) 77 (if x4 = 0 then (bn2 (F_X8_does fl t_answer_w x5) fun r_222 t_answer_222 => gd (okB r_222 = true) (some (r_222, t_reason_w, t_detail_w, t_index_w, t_answer_222, upd (upd (upd (upd t_now_w (0 : Int32).toNatClampNeg ((t_now_w (0 : Int32).toNatClampNeg) + (1 : Int32))) ((5 : Int32) + ((3 : Int32) * x6)).toNatClampNeg x1) (((5 : Int32) + ((3 : Int32) * x6)) + (1 : Int32)).toNatClampNeg x2) (((5 : Int32) + ((3 : Int32) * x6)) + (2 : Int32)).toNatClampNeg x5))) else (bn2 (F_X8_does fl t_answer_w x6) fun r_222b t_answer_222b => gd (okB r_222b = true) (some (r_222b, t_reason_w, t_detail_w, t_index_w, t_answer_222b, upd (upd (upd (upd t_now_w (0 : Int32).toNatClampNeg ((t_now_w (0 : Int32).toNatClampNeg) + (1 : Int32))) ((5 : Int32) + ((3 : Int32) * x6)).toNatClampNeg x1) (((5 : Int32) + ((3 : Int32) * x6)) + (1 : Int32)).toNatClampNeg x2) (((5 : Int32) + ((3 : Int32) * x6)) + (2 : Int32)).toNatClampNeg x5))))))))) else (gi x7 77 (gi (x7 + (3 : Int32)) 77 (F_X8_files_125 fl n t_reason_w t_detail_w t_index_w t_answer_w (upd t_now_w (x7 + (3 : Int32)).toNatClampNeg (t_now_w x7.toNatClampNeg)) x1 x2 x3 x4 x5 x6 (x7 + (-1 : Int32)))))
def F_X8_files_84 (fl : Nat) : Nat → Int32 → Int32 → Int32 → Int32 → (Nat → Int32) → Int32 → Int32 → Int32 → Int32 → Int32 → Option (Int32 × Int32 × Int32 × Int32 × Int32 × (Nat → Int32))
  | 0, _, _, _, _, _, _, _, _, _, _ => none
  | n + 1, t_reason_w, t_detail_w, t_index_w, t_answer_w, t_now_w, x1, x2, x3, x4, x5 => if (5 : Int32) ≤ x5 then (bn (F_X8_lower fl t_now_w x1 (0 : Int32)) fun r_106b => gi (0 : Int32) 77 (F_X8_files_125 fl fl t_reason_w t_detail_w t_index_w t_answer_w t_now_w x1 x2 x3 x4 x5 r_106b (((5 : Int32) + ((3 : Int32) * (t_now_w (0 : Int32).toNatClampNeg))) - (1 : Int32)))) else (bn2 (F_X8_tosses fl t_now_w) fun r_91 t_now_91 => if r_91 = 0 then (bn (F_X8_lower fl t_now_91 x1 (0 : Int32)) fun r_106bb => gi (0 : Int32) 77 (F_X8_files_125 fl fl t_reason_w t_detail_w t_index_w t_answer_w t_now_91 x1 x2 x3 x4 x5 r_106bb (((5 : Int32) + ((3 : Int32) * (t_now_91 (0 : Int32).toNatClampNeg))) - (1 : Int32)))) else (F_X8_files_84 fl n t_reason_w t_detail_w t_index_w t_answer_w t_now_91 x1 x2 x3 x4 (x5 + (1 : Int32))))
def F_X8_files (fl : Nat) (t_reason : Int32) (t_detail : Int32) (t_index : Int32) (t_answer : Int32) (t_now : Nat → Int32) (p1 : Int32) (p2 : Int32) (p3 : Int32) (p4 : Int32) : Option (Int32 × Int32 × Int32 × Int32 × Int32 × (Nat → Int32)) := bn (F_X8_isKey fl p1) fun r_1 => if r_1 = 0 then (bn4 (F_X8_refuses fl t_reason t_detail t_index (1 : Int32) (0 : Int32)) fun r_31 t_reason_31 t_detail_31 t_index_31 => gd (okB r_31 = true) (some (r_31, t_reason_31, t_detail_31, t_index_31, t_answer, t_now))) else (bn (F_X8_isWeight fl p2) fun r_8 => if r_8 = 0 then (bn4 (F_X8_refuses fl t_reason t_detail t_index (1 : Int32) (0 : Int32)) fun r_31b t_reason_31b t_detail_31b t_index_31b => gd (okB r_31b = true) (some (r_31b, t_reason_31b, t_detail_31b, t_index_31b, t_answer, t_now))) else (if p4 = 0 then (bn (F_X8_find fl t_now p1) fun r_37 => if r_37 < 0 then (gi (0 : Int32) 77 (if (t_now (0 : Int32).toNatClampNeg) = (24 : Int32) then (bn4 (F_X8_refuses fl t_reason t_detail t_index (2 : Int32) (24 : Int32)) fun r_69 t_reason_69 t_detail_69 t_index_69 => gd (okB r_69 = true) (some (r_69, t_reason_69, t_detail_69, t_index_69, t_answer, t_now))) else (if p4 = 0 then (F_X8_files_84 fl fl t_reason t_detail t_index t_answer t_now p1 p2 p3 p4 (1 : Int32)) else (bn (F_X8_lower fl t_now p1 (0 : Int32)) fun r_106 => gi (0 : Int32) 77 (F_X8_files_125 fl fl t_reason t_detail t_index t_answer t_now p1 p2 p3 p4 p3 r_106 (((5 : Int32) + ((3 : Int32) * (t_now (0 : Int32).toNatClampNeg))) - (1 : Int32))))))) else (bn (F_X8_find fl t_now p1) fun r_47 => bn4 (F_X8_refuses fl t_reason t_detail t_index (4 : Int32) r_47) fun r_50 t_reason_50 t_detail_50 t_index_50 => gd (okB r_50 = true) (some (r_50, t_reason_50, t_detail_50, t_index_50, t_answer, t_now)))) else (bn (F_X8_in fl p3 (1 : Int32) (5 : Int32)) fun r_22 => if r_22 = 0 then (bn4 (F_X8_refuses fl t_reason t_detail t_index (1 : Int32) (0 : Int32)) fun r_31bb t_reason_31bb t_detail_31bb t_index_31bb => gd (okB r_31bb = true) (some (r_31bb, t_reason_31bb, t_detail_31bb, t_index_31bb, t_answer, t_now))) else (bn (F_X8_find fl t_now p1) fun r_37b => if r_37b < 0 then (gi (0 : Int32) 77 (if (t_now (0 : Int32).toNatClampNeg) = (24 : Int32) then (bn4 (F_X8_refuses fl t_reason t_detail t_index (2 : Int32) (24 : Int32)) fun r_69b t_reason_69b t_detail_69b t_index_69b => gd (okB r_69b = true) (some (r_69b, t_reason_69b, t_detail_69b, t_index_69b, t_answer, t_now))) else (if p4 = 0 then (F_X8_files_84 fl fl t_reason t_detail t_index t_answer t_now p1 p2 p3 p4 (1 : Int32)) else (bn (F_X8_lower fl t_now p1 (0 : Int32)) fun r_106bbb => gi (0 : Int32) 77 (F_X8_files_125 fl fl t_reason t_detail t_index t_answer t_now p1 p2 p3 p4 p3 r_106bbb (((5 : Int32) + ((3 : Int32) * (t_now (0 : Int32).toNatClampNeg))) - (1 : Int32))))))) else (bn (F_X8_find fl t_now p1) fun r_47b => bn4 (F_X8_refuses fl t_reason t_detail t_index (4 : Int32) r_47b) fun r_50b t_reason_50b t_detail_50b t_index_50b => gd (okB r_50b = true) (some (r_50b, t_reason_50b, t_detail_50b, t_index_50b, t_answer, t_now)))))))
theorem iX8_files_X8 : ∀ w ∈ u_ws RX8 TX8 22, w ∈ wsX8_files := fun w h => List.mem_cons_of_mem _ (List.mem_append_left _ (List.mem_append_right _ h))
set_option maxHeartbeats 4000000 in
set_option maxRecDepth 100000 in
theorem c_X8_files (l : Launch) (D : va_G) (y : Nat → ClassId) (fl : Nat) (sz : Nat) (a_t : Nat) (a_t_now : Nat) (a_t_tried : Nat) (a_t_kept : Nat) (a_t_saved : Nat) (a_t_line : Nat) (a_t_text : Nat) (a_t_told : Nat) (a_t_way : Nat) (t_undos : Int32) (t_isSaved : Int32) (t_lined : Int32) (t_length : Int32) (t_at : Int32) (t_order : Int32) (t_fault : Int32) (t_reason : Int32) (t_detail : Int32) (t_index : Int32) (t_answer : Int32) (t_thrown : Int32) (t_went : Int32) (t_fell : Int32) (t_now : Nat → Int32) (p1 : Int32) (p2 : Int32) (p3 : Int32) (p4 : Int32) (r : Int32) (t_reason' : Int32) (t_detail' : Int32) (t_index' : Int32) (t_answer' : Int32) (t_now' : Nat → Int32) (hF : F_X8_files fl t_reason t_detail t_index t_answer t_now p1 p2 p3 p4 = some (r, t_reason', t_detail', t_index', t_answer', t_now')) : Met l yX8_files wsX8_files (rmq 3 66) (wrP D y [(a_t, .inr (12, [.ref a_t_now, .ref a_t_tried, .ref a_t_kept, .int t_undos, .ref a_t_saved, .int t_isSaved, .ref a_t_line, .int t_lined, .ref a_t_text, .int t_length, .int t_at, .int t_order, .ref a_t_told, .int t_fault, .int t_reason, .int t_detail, .int t_index, .int t_answer, .int t_thrown, .ref a_t_way, .int t_went, .int t_fell])), (a_t_now, .inl (y 0, 77, .inl t_now))] sz [.ref a_t, .int p1, .int p2, .int p3, .int p4]) (wQi D y r [(a_t, .inr (12, [.ref a_t_now, .ref a_t_tried, .ref a_t_kept, .int t_undos, .ref a_t_saved, .int t_isSaved, .ref a_t_line, .int t_lined, .ref a_t_text, .int t_length, .int t_at, .int t_order, .ref a_t_told, .int t_fault, .int t_reason', .int t_detail', .int t_index', .int t_answer', .int t_thrown, .ref a_t_way, .int t_went, .int t_fell])), (a_t_now, .inl (y 0, 77, .inl t_now'))] [(a_t, .inr (12, [.ref a_t_now, .ref a_t_tried, .ref a_t_kept, .int t_undos, .ref a_t_saved, .int t_isSaved, .ref a_t_line, .int t_lined, .ref a_t_text, .int t_length, .int t_at, .int t_order, .ref a_t_told, .int t_fault, .int t_reason, .int t_detail, .int t_index, .int t_answer, .int t_thrown, .ref a_t_way, .int t_went, .int t_fell])), (a_t_now, .inl (y 0, 77, .inl t_now))] sz) 0 0 (va_A [(a_t, .inr (12, [.ref a_t_now, .ref a_t_tried, .ref a_t_kept, .int t_undos, .ref a_t_saved, .int t_isSaved, .ref a_t_line, .int t_lined, .ref a_t_text, .int t_length, .int t_at, .int t_order, .ref a_t_told, .int t_fault, .int t_reason, .int t_detail, .int t_index, .int t_answer, .int t_thrown, .ref a_t_way, .int t_went, .int t_fell])), (a_t_now, .inl (y 0, 77, .inl t_now))] sz) := by
  refine Met.ofW (cc := cX8_files) (maxL := 8) (ret := (some .boolean)) (by decide) rfl ?_
  intro p e s m args below meth c s₁ B hml hv
  obtain ⟨hav, hsz, hP, hK, hD0⟩ := hv
  have hx := B.exec
  have hb := B.bytes
  have hr := B.returns
  have hts := atoms_spec (ws := wsX8_files) B.pre
  have hown : s.vm.findClass RX8 = some m.cls := findClass_of_methodNamed B.named
  have hlocks := B.notSynchronized
  subst hsz
  have hD := hD0.self (sz := s.heap.size)
  obtain ⟨A, hAe⟩ : ∃ A : Nat → Prop, va_A [(a_t, .inr (12, [.ref a_t_now, .ref a_t_tried, .ref a_t_kept, .int t_undos, .ref a_t_saved, .int t_isSaved, .ref a_t_line, .int t_lined, .ref a_t_text, .int t_length, .int t_at, .int t_order, .ref a_t_told, .int t_fault, .int t_reason, .int t_detail, .int t_index, .int t_answer, .int t_thrown, .ref a_t_way, .int t_went, .int t_fell])), (a_t_now, .inl (y 0, 77, .inl t_now))] s.heap.size = A := ⟨_, rfl⟩
  rw [hAe] at hD
  have hA : ∀ q, s.heap.size ≤ q → A q := fun q h => by rw [← hAe]; exact Or.inr h
  have hS : va_S A s.heap s.heap [] := va_S.rf
  refine W_q (R1 := (rmq 3 66)) rfl (fun Q0 hQ0 => ?_)
  unfold F_X8_files at hF
  have k_125 : ∀ (n : Nat) (t_reason_w : Int32) (t_detail_w : Int32) (t_index_w : Int32) (t_answer_w : Int32) (t_now_w : Nat → Int32) (x1 : Int32) (x2 : Int32) (x3 : Int32) (x4 : Int32) (x5 : Int32) (x6 : Int32) (x7 : Int32), F_X8_files_125 fl n t_reason_w t_detail_w t_index_w t_answer_w t_now_w x1 x2 x3 x4 x5 x6 x7 = some (r, t_reason', t_detail', t_index', t_answer', t_now') → ∀ (H : Heap) (locs : List Loc), va_P D vwCl [(a_t, .inr (12, [.ref a_t_now, .ref a_t_tried, .ref a_t_kept, .int t_undos, .ref a_t_saved, .int t_isSaved, .ref a_t_line, .int t_lined, .ref a_t_text, .int t_length, .int t_at, .int t_order, .ref a_t_told, .int t_fault, .int t_reason_w, .int t_detail_w, .int t_index_w, .int t_answer_w, .int t_thrown, .ref a_t_way, .int t_went, .int t_fell])), (a_t_now, .inl (y 0, 77, .inl t_now_w))] H → va_D A [(a_t, .inr (12, [.ref a_t_now, .ref a_t_tried, .ref a_t_kept, .int t_undos, .ref a_t_saved, .int t_isSaved, .ref a_t_line, .int t_lined, .ref a_t_text, .int t_length, .int t_at, .int t_order, .ref a_t_told, .int t_fault, .int t_reason_w, .int t_detail_w, .int t_index_w, .int t_answer_w, .int t_thrown, .ref a_t_way, .int t_went, .int t_fell])), (a_t_now, .inl (y 0, 77, .inl t_now_w))] → va_S A s.heap H locs → ∀ (ls : Array Slot), lv_has ls 8 [(0, .ref a_t), (1, .int x1), (2, .int x2), (3, .int x3), (4, .int x4), (5, .int x5), (6, .int x6), (7, .int x7)] → W p l e (rmq 3 66) s m args below meth c H locs 0 0 Q0 (F0 m 125 ls []) := by
    intro n
    induction n with
    | zero => intro t_reason_w t_detail_w t_index_w t_answer_w t_now_w x1 x2 x3 x4 x5 x6 x7 hF; rw [F_X8_files_125] at hF; cases hF
    | succ n ih =>
      intro t_reason_w t_detail_w t_index_w t_answer_w t_now_w x1 x2 x3 x4 x5 x6 x7 hF H locs hP hD hS ls hl
      rw [F_X8_files_125] at hF
      refine lv_iload hx hb dX8_files_125 (lv_at hl 7 rfl) ?_
      refine lv_iconst (v := 5) hx hb dX8_files_127 (by decide) ?_
      refine lv_iconst (v := 3) hx hb dX8_files_128 (by decide) ?_
      refine lv_iload hx hb dX8_files_129 (lv_at hl 6 rfl) ?_
      refine lv_imul hx hb dX8_files_131 ?_
      refine lv_iadd hx hb dX8_files_132 ?_
      refine lv_icmp_lt (tgt := 158) hx hb dX8_files_133 (by decide) (fun c_133 => ?_) (fun c_133 => ?_)
      · have hF := ift hF c_133
        refine lv_aload_n hx hb dX8_files_158 rfl (lv_at hl 0 rfl) ?_
        refine va_get (D := D) (ci := 12) (v := .ref a_t_now) (C := RX8) (T := TX8) (N := 22) hx hb hts iX8_files_X8 hown hK hP 0 rfl rfl 0 (by decide) (hts (.fieldLink RX8 9 "SkipArchiveModel" "now" "[I") (List.mem_of_getElem? (i := 1) rfl)) (fun _ h9 => h9) rfl dX8_files_159 ?_
        refine lv_iconst (v := 0) hx hb dX8_files_162 (by decide) ?_
        refine lv_dup2_11 hx hb dX8_files_163 rfl rfl ?_
        obtain ⟨g_164, hF⟩ := gi_i hF
        refine va_iald hx hb hK hP 1 0 rfl rfl g_164 dX8_files_164 ?_
        refine lv_iconst (v := 1) hx hb dX8_files_165 (by decide) ?_
        refine lv_iadd hx hb dX8_files_166 ?_
        obtain ⟨g_167, hF⟩ := gi_i hF
        refine va_iast hx hb hK hP hD hS 1 0 rfl rfl g_167 dX8_files_167 (fun H locs hP hD hS => ?_)
        have hP : va_P D vwCl [(a_t, .inr (12, [.ref a_t_now, .ref a_t_tried, .ref a_t_kept, .int t_undos, .ref a_t_saved, .int t_isSaved, .ref a_t_line, .int t_lined, .ref a_t_text, .int t_length, .int t_at, .int t_order, .ref a_t_told, .int t_fault, .int t_reason_w, .int t_detail_w, .int t_index_w, .int t_answer_w, .int t_thrown, .ref a_t_way, .int t_went, .int t_fell])), (a_t_now, .inl (y 0, 77, .inl (upd t_now_w (0 : Int32).toNatClampNeg ((t_now_w (0 : Int32).toNatClampNeg) + (1 : Int32)))))] H := hP
        have hD : va_D A [(a_t, .inr (12, [.ref a_t_now, .ref a_t_tried, .ref a_t_kept, .int t_undos, .ref a_t_saved, .int t_isSaved, .ref a_t_line, .int t_lined, .ref a_t_text, .int t_length, .int t_at, .int t_order, .ref a_t_told, .int t_fault, .int t_reason_w, .int t_detail_w, .int t_index_w, .int t_answer_w, .int t_thrown, .ref a_t_way, .int t_went, .int t_fell])), (a_t_now, .inl (y 0, 77, .inl (upd t_now_w (0 : Int32).toNatClampNeg ((t_now_w (0 : Int32).toNatClampNeg) + (1 : Int32)))))] := hD
        refine lv_aload_n hx hb dX8_files_168 rfl (lv_at hl 0 rfl) ?_
        refine va_get (D := D) (ci := 12) (v := .ref a_t_now) (C := RX8) (T := TX8) (N := 22) hx hb hts iX8_files_X8 hown hK hP 0 rfl rfl 0 (by decide) (hts (.fieldLink RX8 9 "SkipArchiveModel" "now" "[I") (List.mem_of_getElem? (i := 1) rfl)) (fun _ h9 => h9) rfl dX8_files_169 ?_
        refine lv_iconst (v := 5) hx hb dX8_files_172 (by decide) ?_
        refine lv_iconst (v := 3) hx hb dX8_files_173 (by decide) ?_
        refine lv_iload hx hb dX8_files_174 (lv_at hl 6 rfl) ?_
        refine lv_imul hx hb dX8_files_176 ?_
        refine lv_iadd hx hb dX8_files_177 ?_
        refine lv_iload_n hx hb dX8_files_178 rfl (lv_at hl 1 rfl) ?_
        obtain ⟨g_179, hF⟩ := gi_i hF
        refine va_iast hx hb hK hP hD hS 1 0 rfl rfl g_179 dX8_files_179 (fun H locs hP hD hS => ?_)
        have hP : va_P D vwCl [(a_t, .inr (12, [.ref a_t_now, .ref a_t_tried, .ref a_t_kept, .int t_undos, .ref a_t_saved, .int t_isSaved, .ref a_t_line, .int t_lined, .ref a_t_text, .int t_length, .int t_at, .int t_order, .ref a_t_told, .int t_fault, .int t_reason_w, .int t_detail_w, .int t_index_w, .int t_answer_w, .int t_thrown, .ref a_t_way, .int t_went, .int t_fell])), (a_t_now, .inl (y 0, 77, .inl (upd (upd t_now_w (0 : Int32).toNatClampNeg ((t_now_w (0 : Int32).toNatClampNeg) + (1 : Int32))) ((5 : Int32) + ((3 : Int32) * x6)).toNatClampNeg x1)))] H := hP
        have hD : va_D A [(a_t, .inr (12, [.ref a_t_now, .ref a_t_tried, .ref a_t_kept, .int t_undos, .ref a_t_saved, .int t_isSaved, .ref a_t_line, .int t_lined, .ref a_t_text, .int t_length, .int t_at, .int t_order, .ref a_t_told, .int t_fault, .int t_reason_w, .int t_detail_w, .int t_index_w, .int t_answer_w, .int t_thrown, .ref a_t_way, .int t_went, .int t_fell])), (a_t_now, .inl (y 0, 77, .inl (upd (upd t_now_w (0 : Int32).toNatClampNeg ((t_now_w (0 : Int32).toNatClampNeg) + (1 : Int32))) ((5 : Int32) + ((3 : Int32) * x6)).toNatClampNeg x1)))] := hD
        refine lv_aload_n hx hb dX8_files_180 rfl (lv_at hl 0 rfl) ?_
        refine va_get (D := D) (ci := 12) (v := .ref a_t_now) (C := RX8) (T := TX8) (N := 22) hx hb hts iX8_files_X8 hown hK hP 0 rfl rfl 0 (by decide) (hts (.fieldLink RX8 9 "SkipArchiveModel" "now" "[I") (List.mem_of_getElem? (i := 1) rfl)) (fun _ h9 => h9) rfl dX8_files_181 ?_
        refine lv_iconst (v := 5) hx hb dX8_files_184 (by decide) ?_
        refine lv_iconst (v := 3) hx hb dX8_files_185 (by decide) ?_
        refine lv_iload hx hb dX8_files_186 (lv_at hl 6 rfl) ?_
        refine lv_imul hx hb dX8_files_188 ?_
        refine lv_iadd hx hb dX8_files_189 ?_
        refine lv_iconst (v := 1) hx hb dX8_files_190 (by decide) ?_
        refine lv_iadd hx hb dX8_files_191 ?_
        refine lv_iload_n hx hb dX8_files_192 rfl (lv_at hl 2 rfl) ?_
        obtain ⟨g_193, hF⟩ := gi_i hF
        refine va_iast hx hb hK hP hD hS 1 0 rfl rfl g_193 dX8_files_193 (fun H locs hP hD hS => ?_)
        have hP : va_P D vwCl [(a_t, .inr (12, [.ref a_t_now, .ref a_t_tried, .ref a_t_kept, .int t_undos, .ref a_t_saved, .int t_isSaved, .ref a_t_line, .int t_lined, .ref a_t_text, .int t_length, .int t_at, .int t_order, .ref a_t_told, .int t_fault, .int t_reason_w, .int t_detail_w, .int t_index_w, .int t_answer_w, .int t_thrown, .ref a_t_way, .int t_went, .int t_fell])), (a_t_now, .inl (y 0, 77, .inl (upd (upd (upd t_now_w (0 : Int32).toNatClampNeg ((t_now_w (0 : Int32).toNatClampNeg) + (1 : Int32))) ((5 : Int32) + ((3 : Int32) * x6)).toNatClampNeg x1) (((5 : Int32) + ((3 : Int32) * x6)) + (1 : Int32)).toNatClampNeg x2)))] H := hP
        have hD : va_D A [(a_t, .inr (12, [.ref a_t_now, .ref a_t_tried, .ref a_t_kept, .int t_undos, .ref a_t_saved, .int t_isSaved, .ref a_t_line, .int t_lined, .ref a_t_text, .int t_length, .int t_at, .int t_order, .ref a_t_told, .int t_fault, .int t_reason_w, .int t_detail_w, .int t_index_w, .int t_answer_w, .int t_thrown, .ref a_t_way, .int t_went, .int t_fell])), (a_t_now, .inl (y 0, 77, .inl (upd (upd (upd t_now_w (0 : Int32).toNatClampNeg ((t_now_w (0 : Int32).toNatClampNeg) + (1 : Int32))) ((5 : Int32) + ((3 : Int32) * x6)).toNatClampNeg x1) (((5 : Int32) + ((3 : Int32) * x6)) + (1 : Int32)).toNatClampNeg x2)))] := hD
        refine lv_aload_n hx hb dX8_files_194 rfl (lv_at hl 0 rfl) ?_
        refine va_get (D := D) (ci := 12) (v := .ref a_t_now) (C := RX8) (T := TX8) (N := 22) hx hb hts iX8_files_X8 hown hK hP 0 rfl rfl 0 (by decide) (hts (.fieldLink RX8 9 "SkipArchiveModel" "now" "[I") (List.mem_of_getElem? (i := 1) rfl)) (fun _ h9 => h9) rfl dX8_files_195 ?_
        refine lv_iconst (v := 5) hx hb dX8_files_198 (by decide) ?_
        refine lv_iconst (v := 3) hx hb dX8_files_199 (by decide) ?_
        refine lv_iload hx hb dX8_files_200 (lv_at hl 6 rfl) ?_
        refine lv_imul hx hb dX8_files_202 ?_
        refine lv_iadd hx hb dX8_files_203 ?_
        refine lv_iconst (v := 2) hx hb dX8_files_204 (by decide) ?_
        refine lv_iadd hx hb dX8_files_205 ?_
        refine lv_iload hx hb dX8_files_206 (lv_at hl 5 rfl) ?_
        obtain ⟨g_208, hF⟩ := gi_i hF
        refine va_iast hx hb hK hP hD hS 1 0 rfl rfl g_208 dX8_files_208 (fun H locs hP hD hS => ?_)
        have hP : va_P D vwCl [(a_t, .inr (12, [.ref a_t_now, .ref a_t_tried, .ref a_t_kept, .int t_undos, .ref a_t_saved, .int t_isSaved, .ref a_t_line, .int t_lined, .ref a_t_text, .int t_length, .int t_at, .int t_order, .ref a_t_told, .int t_fault, .int t_reason_w, .int t_detail_w, .int t_index_w, .int t_answer_w, .int t_thrown, .ref a_t_way, .int t_went, .int t_fell])), (a_t_now, .inl (y 0, 77, .inl (upd (upd (upd (upd t_now_w (0 : Int32).toNatClampNeg ((t_now_w (0 : Int32).toNatClampNeg) + (1 : Int32))) ((5 : Int32) + ((3 : Int32) * x6)).toNatClampNeg x1) (((5 : Int32) + ((3 : Int32) * x6)) + (1 : Int32)).toNatClampNeg x2) (((5 : Int32) + ((3 : Int32) * x6)) + (2 : Int32)).toNatClampNeg x5)))] H := hP
        have hD : va_D A [(a_t, .inr (12, [.ref a_t_now, .ref a_t_tried, .ref a_t_kept, .int t_undos, .ref a_t_saved, .int t_isSaved, .ref a_t_line, .int t_lined, .ref a_t_text, .int t_length, .int t_at, .int t_order, .ref a_t_told, .int t_fault, .int t_reason_w, .int t_detail_w, .int t_index_w, .int t_answer_w, .int t_thrown, .ref a_t_way, .int t_went, .int t_fell])), (a_t_now, .inl (y 0, 77, .inl (upd (upd (upd (upd t_now_w (0 : Int32).toNatClampNeg ((t_now_w (0 : Int32).toNatClampNeg) + (1 : Int32))) ((5 : Int32) + ((3 : Int32) * x6)).toNatClampNeg x1) (((5 : Int32) + ((3 : Int32) * x6)) + (1 : Int32)).toNatClampNeg x2) (((5 : Int32) + ((3 : Int32) * x6)) + (2 : Int32)).toNatClampNeg x5)))] := hD
        refine lv_aload_n hx hb dX8_files_209 rfl (lv_at hl 0 rfl) ?_
        refine lv_iload hx hb dX8_files_210 (lv_at hl 4 rfl) ?_
        refine lv_if_eq (tgt := 220) hx hb dX8_files_212 (by decide) (fun c_212 => ?_) (fun c_212 => ?_)
        · have hF := ift hF c_212
          refine lv_iload hx hb dX8_files_220 (lv_at hl 5 rfl) ?_
          obtain ⟨r_222, t_answer_222, hq_222, hF⟩ := bn2_i hF
          refine cm_Vi (As := [.int x5]) (rest := []) (wr := [(a_t_now, .inl (y 0, 77, .inl (upd (upd (upd (upd t_now_w (0 : Int32).toNatClampNeg ((t_now_w (0 : Int32).toNatClampNeg) + (1 : Int32))) ((5 : Int32) + ((3 : Int32) * x6)).toNatClampNeg x1) (((5 : Int32) + ((3 : Int32) * x6)) + (1 : Int32)).toNatClampNeg x2) (((5 : Int32) + ((3 : Int32) * x6)) + (2 : Int32)).toNatClampNeg x5)))]) ⟨hx, hb, hml, hown, hts⟩ (c_X8_does l D y fl H.size a_t a_t_now a_t_tried a_t_kept a_t_saved a_t_line a_t_text a_t_told a_t_way t_undos t_isSaved t_lined t_length t_at t_order t_fault t_reason_w t_detail_w t_index_w t_answer_w t_thrown t_went t_fell x5 r_222 t_answer_222 hq_222) (cwV 1 hts gX8_files_X8_does rfl rfl rfl (by decide +kernel) ⟨Nat.le_of_ble_eq_true rfl, Nat.le_of_ble_eq_true rfl⟩) hK hP hD hS hA [0] [1] rfl rfl rfl rfl (by decide) rfl rfl rfl hl.1 rfl (Nat.le_of_ble_eq_true rfl) dX8_files_222 ⟨Nat.le_of_ble_eq_true rfl, Nat.le_of_ble_eq_true rfl⟩ (fun H locs hP hD hS => ?_)
          have hP : va_P D vwCl [(a_t_now, .inl (y 0, 77, .inl (upd (upd (upd (upd t_now_w (0 : Int32).toNatClampNeg ((t_now_w (0 : Int32).toNatClampNeg) + (1 : Int32))) ((5 : Int32) + ((3 : Int32) * x6)).toNatClampNeg x1) (((5 : Int32) + ((3 : Int32) * x6)) + (1 : Int32)).toNatClampNeg x2) (((5 : Int32) + ((3 : Int32) * x6)) + (2 : Int32)).toNatClampNeg x5))), (a_t, .inr (12, [.ref a_t_now, .ref a_t_tried, .ref a_t_kept, .int t_undos, .ref a_t_saved, .int t_isSaved, .ref a_t_line, .int t_lined, .ref a_t_text, .int t_length, .int t_at, .int t_order, .ref a_t_told, .int t_fault, .int t_reason_w, .int t_detail_w, .int t_index_w, .int t_answer_222, .int t_thrown, .ref a_t_way, .int t_went, .int t_fell]))] H := hP
          have hD : va_D A [(a_t_now, .inl (y 0, 77, .inl (upd (upd (upd (upd t_now_w (0 : Int32).toNatClampNeg ((t_now_w (0 : Int32).toNatClampNeg) + (1 : Int32))) ((5 : Int32) + ((3 : Int32) * x6)).toNatClampNeg x1) (((5 : Int32) + ((3 : Int32) * x6)) + (1 : Int32)).toNatClampNeg x2) (((5 : Int32) + ((3 : Int32) * x6)) + (2 : Int32)).toNatClampNeg x5))), (a_t, .inr (12, [.ref a_t_now, .ref a_t_tried, .ref a_t_kept, .int t_undos, .ref a_t_saved, .int t_isSaved, .ref a_t_line, .int t_lined, .ref a_t_text, .int t_length, .int t_at, .int t_order, .ref a_t_told, .int t_fault, .int t_reason_w, .int t_detail_w, .int t_index_w, .int t_answer_222, .int t_thrown, .ref a_t_way, .int t_went, .int t_fell]))] := hD
          obtain ⟨g_225, hF⟩ := gd_i hF
          obtain ⟨e0_225, e1_225, e2_225, e3_225, e4_225, e5_225⟩ := inj6 hF
          rw [← e0_225, ← e1_225, ← e2_225, ← e3_225, ← e4_225, ← e5_225] at hQ0
          rw [hQ0]
          exact ret_z hx hb hr (okB_n g_225).1 hlocks hAe hK hP hD hS [1, 0] rfl rfl dX8_files_225
        · have hF := iff_ hF c_212
          refine lv_iload hx hb dX8_files_215 (lv_at hl 6 rfl) ?_
          refine lv_goto (tgt := 222) hx hb dX8_files_217 (by decide) ?_
          obtain ⟨r_222b, t_answer_222b, hq_222b, hF⟩ := bn2_i hF
          refine cm_Vi (As := [.int x6]) (rest := []) (wr := [(a_t_now, .inl (y 0, 77, .inl (upd (upd (upd (upd t_now_w (0 : Int32).toNatClampNeg ((t_now_w (0 : Int32).toNatClampNeg) + (1 : Int32))) ((5 : Int32) + ((3 : Int32) * x6)).toNatClampNeg x1) (((5 : Int32) + ((3 : Int32) * x6)) + (1 : Int32)).toNatClampNeg x2) (((5 : Int32) + ((3 : Int32) * x6)) + (2 : Int32)).toNatClampNeg x5)))]) ⟨hx, hb, hml, hown, hts⟩ (c_X8_does l D y fl H.size a_t a_t_now a_t_tried a_t_kept a_t_saved a_t_line a_t_text a_t_told a_t_way t_undos t_isSaved t_lined t_length t_at t_order t_fault t_reason_w t_detail_w t_index_w t_answer_w t_thrown t_went t_fell x6 r_222b t_answer_222b hq_222b) (cwV 1 hts gX8_files_X8_does rfl rfl rfl (by decide +kernel) ⟨Nat.le_of_ble_eq_true rfl, Nat.le_of_ble_eq_true rfl⟩) hK hP hD hS hA [0] [1] rfl rfl rfl rfl (by decide) rfl rfl rfl hl.1 rfl (Nat.le_of_ble_eq_true rfl) dX8_files_222 ⟨Nat.le_of_ble_eq_true rfl, Nat.le_of_ble_eq_true rfl⟩ (fun H locs hP hD hS => ?_)
          have hP : va_P D vwCl [(a_t_now, .inl (y 0, 77, .inl (upd (upd (upd (upd t_now_w (0 : Int32).toNatClampNeg ((t_now_w (0 : Int32).toNatClampNeg) + (1 : Int32))) ((5 : Int32) + ((3 : Int32) * x6)).toNatClampNeg x1) (((5 : Int32) + ((3 : Int32) * x6)) + (1 : Int32)).toNatClampNeg x2) (((5 : Int32) + ((3 : Int32) * x6)) + (2 : Int32)).toNatClampNeg x5))), (a_t, .inr (12, [.ref a_t_now, .ref a_t_tried, .ref a_t_kept, .int t_undos, .ref a_t_saved, .int t_isSaved, .ref a_t_line, .int t_lined, .ref a_t_text, .int t_length, .int t_at, .int t_order, .ref a_t_told, .int t_fault, .int t_reason_w, .int t_detail_w, .int t_index_w, .int t_answer_222b, .int t_thrown, .ref a_t_way, .int t_went, .int t_fell]))] H := hP
          have hD : va_D A [(a_t_now, .inl (y 0, 77, .inl (upd (upd (upd (upd t_now_w (0 : Int32).toNatClampNeg ((t_now_w (0 : Int32).toNatClampNeg) + (1 : Int32))) ((5 : Int32) + ((3 : Int32) * x6)).toNatClampNeg x1) (((5 : Int32) + ((3 : Int32) * x6)) + (1 : Int32)).toNatClampNeg x2) (((5 : Int32) + ((3 : Int32) * x6)) + (2 : Int32)).toNatClampNeg x5))), (a_t, .inr (12, [.ref a_t_now, .ref a_t_tried, .ref a_t_kept, .int t_undos, .ref a_t_saved, .int t_isSaved, .ref a_t_line, .int t_lined, .ref a_t_text, .int t_length, .int t_at, .int t_order, .ref a_t_told, .int t_fault, .int t_reason_w, .int t_detail_w, .int t_index_w, .int t_answer_222b, .int t_thrown, .ref a_t_way, .int t_went, .int t_fell]))] := hD
          obtain ⟨g_225b, hF⟩ := gd_i hF
          obtain ⟨e0_225, e1_225, e2_225, e3_225, e4_225, e5_225⟩ := inj6 hF
          rw [← e0_225, ← e1_225, ← e2_225, ← e3_225, ← e4_225, ← e5_225] at hQ0
          rw [hQ0]
          exact ret_z hx hb hr (okB_n g_225b).1 hlocks hAe hK hP hD hS [1, 0] rfl rfl dX8_files_225
      · have hF := iff_ hF c_133
        refine lv_aload_n hx hb dX8_files_136 rfl (lv_at hl 0 rfl) ?_
        refine va_get (D := D) (ci := 12) (v := .ref a_t_now) (C := RX8) (T := TX8) (N := 22) hx hb hts iX8_files_X8 hown hK hP 0 rfl rfl 0 (by decide) (hts (.fieldLink RX8 9 "SkipArchiveModel" "now" "[I") (List.mem_of_getElem? (i := 1) rfl)) (fun _ h9 => h9) rfl dX8_files_137 ?_
        refine lv_iload hx hb dX8_files_140 (lv_at hl 7 rfl) ?_
        refine lv_iconst (v := 3) hx hb dX8_files_142 (by decide) ?_
        refine lv_iadd hx hb dX8_files_143 ?_
        refine lv_aload_n hx hb dX8_files_144 rfl (lv_at hl 0 rfl) ?_
        refine va_get (D := D) (ci := 12) (v := .ref a_t_now) (C := RX8) (T := TX8) (N := 22) hx hb hts iX8_files_X8 hown hK hP 0 rfl rfl 0 (by decide) (hts (.fieldLink RX8 9 "SkipArchiveModel" "now" "[I") (List.mem_of_getElem? (i := 1) rfl)) (fun _ h9 => h9) rfl dX8_files_145 ?_
        refine lv_iload hx hb dX8_files_148 (lv_at hl 7 rfl) ?_
        obtain ⟨g_150, hF⟩ := gi_i hF
        refine va_iald hx hb hK hP 1 0 rfl rfl g_150 dX8_files_150 ?_
        obtain ⟨g_151, hF⟩ := gi_i hF
        refine va_iast hx hb hK hP hD hS 1 0 rfl rfl g_151 dX8_files_151 (fun H locs hP hD hS => ?_)
        have hP : va_P D vwCl [(a_t, .inr (12, [.ref a_t_now, .ref a_t_tried, .ref a_t_kept, .int t_undos, .ref a_t_saved, .int t_isSaved, .ref a_t_line, .int t_lined, .ref a_t_text, .int t_length, .int t_at, .int t_order, .ref a_t_told, .int t_fault, .int t_reason_w, .int t_detail_w, .int t_index_w, .int t_answer_w, .int t_thrown, .ref a_t_way, .int t_went, .int t_fell])), (a_t_now, .inl (y 0, 77, .inl (upd t_now_w (x7 + (3 : Int32)).toNatClampNeg (t_now_w x7.toNatClampNeg))))] H := hP
        have hD : va_D A [(a_t, .inr (12, [.ref a_t_now, .ref a_t_tried, .ref a_t_kept, .int t_undos, .ref a_t_saved, .int t_isSaved, .ref a_t_line, .int t_lined, .ref a_t_text, .int t_length, .int t_at, .int t_order, .ref a_t_told, .int t_fault, .int t_reason_w, .int t_detail_w, .int t_index_w, .int t_answer_w, .int t_thrown, .ref a_t_way, .int t_went, .int t_fell])), (a_t_now, .inl (y 0, 77, .inl (upd t_now_w (x7 + (3 : Int32)).toNatClampNeg (t_now_w x7.toNatClampNeg))))] := hD
        refine lv_iinc (v := x7 + (-1 : Int32)) (lv' := [(7, .int (x7 + (-1 : Int32))), (0, .ref a_t), (1, .int x1), (2, .int x2), (3, .int x3), (4, .int x4), (5, .int x5), (6, .int x6)]) hx hb dX8_files_152 hl (k := 7) rfl rfl (by decide) rfl (fun ls hl => ?_)
        refine lv_goto (tgt := 125) hx hb dX8_files_155 (by decide) ?_
        exact ih t_reason_w t_detail_w t_index_w t_answer_w (upd t_now_w (x7 + (3 : Int32)).toNatClampNeg (t_now_w x7.toNatClampNeg)) x1 x2 x3 x4 x5 x6 (x7 + (-1 : Int32)) hF _ _ hP hD hS ls (lv_sub hl [1, 2, 3, 4, 5, 6, 7, 0] rfl)
  have k_84 : ∀ (n : Nat) (t_reason_w : Int32) (t_detail_w : Int32) (t_index_w : Int32) (t_answer_w : Int32) (t_now_w : Nat → Int32) (x1 : Int32) (x2 : Int32) (x3 : Int32) (x4 : Int32) (x5 : Int32), F_X8_files_84 fl n t_reason_w t_detail_w t_index_w t_answer_w t_now_w x1 x2 x3 x4 x5 = some (r, t_reason', t_detail', t_index', t_answer', t_now') → ∀ (H : Heap) (locs : List Loc), va_P D vwCl [(a_t, .inr (12, [.ref a_t_now, .ref a_t_tried, .ref a_t_kept, .int t_undos, .ref a_t_saved, .int t_isSaved, .ref a_t_line, .int t_lined, .ref a_t_text, .int t_length, .int t_at, .int t_order, .ref a_t_told, .int t_fault, .int t_reason_w, .int t_detail_w, .int t_index_w, .int t_answer_w, .int t_thrown, .ref a_t_way, .int t_went, .int t_fell])), (a_t_now, .inl (y 0, 77, .inl t_now_w))] H → va_D A [(a_t, .inr (12, [.ref a_t_now, .ref a_t_tried, .ref a_t_kept, .int t_undos, .ref a_t_saved, .int t_isSaved, .ref a_t_line, .int t_lined, .ref a_t_text, .int t_length, .int t_at, .int t_order, .ref a_t_told, .int t_fault, .int t_reason_w, .int t_detail_w, .int t_index_w, .int t_answer_w, .int t_thrown, .ref a_t_way, .int t_went, .int t_fell])), (a_t_now, .inl (y 0, 77, .inl t_now_w))] → va_S A s.heap H locs → ∀ (ls : Array Slot), lv_has ls 8 [(0, .ref a_t), (1, .int x1), (2, .int x2), (3, .int x3), (4, .int x4), (5, .int x5)] → W p l e (rmq 3 66) s m args below meth c H locs 0 0 Q0 (F0 m 84 ls []) := by
    intro n
    induction n with
    | zero => intro t_reason_w t_detail_w t_index_w t_answer_w t_now_w x1 x2 x3 x4 x5 hF; rw [F_X8_files_84] at hF; cases hF
    | succ n ih =>
      intro t_reason_w t_detail_w t_index_w t_answer_w t_now_w x1 x2 x3 x4 x5 hF H locs hP hD hS ls hl
      rw [F_X8_files_84] at hF
      refine lv_iload hx hb dX8_files_84 (lv_at hl 5 rfl) ?_
      refine lv_iconst (v := 5) hx hb dX8_files_86 (by decide) ?_
      refine lv_icmp_ge (tgt := 103) hx hb dX8_files_87 (by decide) (fun c_87 => ?_) (fun c_87 => ?_)
      · have hF := ift hF c_87
        refine lv_aload_n hx hb dX8_files_103 rfl (lv_at hl 0 rfl) ?_
        refine lv_iload_n hx hb dX8_files_104 rfl (lv_at hl 1 rfl) ?_
        refine lv_iconst (v := 0) hx hb dX8_files_105 (by decide) ?_
        obtain ⟨r_106b, hq_106b, hF⟩ := bn_i hF
        refine cr_V (As := [.int x1, .int (0 : Int32)]) (rest := []) ⟨hx, hb, hml, hown, hts⟩ (c_X8_lower l D y fl a_t a_t_now a_t_tried a_t_kept a_t_saved a_t_line a_t_text a_t_told a_t_way t_undos t_isSaved t_lined t_length t_at t_order t_fault t_reason_w t_detail_w t_index_w t_answer_w t_thrown t_went t_fell t_now_w x1 (0 : Int32) r_106b hq_106b) (cwV 2 hts gX8_files_X8_lower rfl rfl rfl (by decide +kernel) ⟨Nat.le_of_ble_eq_true rfl, Nat.le_of_ble_eq_true rfl⟩) hK hP [0, 1] rfl rfl rfl rfl hl.1 rfl (Nat.le_of_ble_eq_true rfl) dX8_files_106 ⟨Nat.le_of_ble_eq_true rfl, Nat.le_of_ble_eq_true rfl⟩ ?_
        refine lv_istore (lv' := [(6, .int r_106b), (0, .ref a_t), (1, .int x1), (2, .int x2), (3, .int x3), (4, .int x4), (5, .int x5)]) hx hb dX8_files_109 hl (by decide) rfl (fun ls hl => ?_)
        refine lv_iconst (v := 5) hx hb dX8_files_111 (by decide) ?_
        refine lv_iconst (v := 3) hx hb dX8_files_112 (by decide) ?_
        refine lv_aload_n hx hb dX8_files_113 rfl (lv_at hl 1 rfl) ?_
        refine va_get (D := D) (ci := 12) (v := .ref a_t_now) (C := RX8) (T := TX8) (N := 22) hx hb hts iX8_files_X8 hown hK hP 0 rfl rfl 0 (by decide) (hts (.fieldLink RX8 9 "SkipArchiveModel" "now" "[I") (List.mem_of_getElem? (i := 1) rfl)) (fun _ h9 => h9) rfl dX8_files_114 ?_
        refine lv_iconst (v := 0) hx hb dX8_files_117 (by decide) ?_
        obtain ⟨g_118b, hF⟩ := gi_i hF
        refine va_iald hx hb hK hP 1 0 rfl rfl g_118b dX8_files_118 ?_
        refine lv_imul hx hb dX8_files_119 ?_
        refine lv_iadd hx hb dX8_files_120 ?_
        refine lv_iconst (v := 1) hx hb dX8_files_121 (by decide) ?_
        refine lv_isub hx hb dX8_files_122 ?_
        refine lv_istore (lv' := [(7, .int (((5 : Int32) + ((3 : Int32) * (t_now_w (0 : Int32).toNatClampNeg))) - (1 : Int32))), (6, .int r_106b), (0, .ref a_t), (1, .int x1), (2, .int x2), (3, .int x3), (4, .int x4), (5, .int x5)]) hx hb dX8_files_123 hl (by decide) rfl (fun ls hl => ?_)
        exact k_125 fl t_reason_w t_detail_w t_index_w t_answer_w t_now_w x1 x2 x3 x4 x5 r_106b (((5 : Int32) + ((3 : Int32) * (t_now_w (0 : Int32).toNatClampNeg))) - (1 : Int32)) hF _ _ hP hD hS ls (lv_sub hl [2, 3, 4, 5, 6, 7, 1, 0] rfl)
      · have hF := iff_ hF c_87
        refine lv_aload_n hx hb dX8_files_90 rfl (lv_at hl 0 rfl) ?_
        obtain ⟨r_91, t_now_91, hq_91, hF⟩ := bn2_i hF
        refine cm_Vi (As := []) (rest := []) (wr := []) ⟨hx, hb, hml, hown, hts⟩ (c_X8_tosses l D y fl H.size a_t a_t_now a_t_tried a_t_kept a_t_saved a_t_line a_t_text a_t_told a_t_way t_undos t_isSaved t_lined t_length t_at t_order t_fault t_reason_w t_detail_w t_index_w t_answer_w t_thrown t_went t_fell t_now_w r_91 t_now_91 hq_91) (cwV 0 hts gX8_files_X8_tosses rfl rfl rfl (by decide +kernel) ⟨Nat.le_of_ble_eq_true rfl, Nat.le_of_ble_eq_true rfl⟩) hK hP hD hS hA [0, 1] [] rfl rfl rfl rfl (by decide) rfl rfl rfl hl.1 rfl (Nat.le_of_ble_eq_true rfl) dX8_files_91 ⟨Nat.le_of_ble_eq_true rfl, Nat.le_of_ble_eq_true rfl⟩ (fun H locs hP hD hS => ?_)
        have hP : va_P D vwCl [(a_t, .inr (12, [.ref a_t_now, .ref a_t_tried, .ref a_t_kept, .int t_undos, .ref a_t_saved, .int t_isSaved, .ref a_t_line, .int t_lined, .ref a_t_text, .int t_length, .int t_at, .int t_order, .ref a_t_told, .int t_fault, .int t_reason_w, .int t_detail_w, .int t_index_w, .int t_answer_w, .int t_thrown, .ref a_t_way, .int t_went, .int t_fell])), (a_t_now, .inl (y 0, 77, .inl t_now_91))] H := hP
        have hD : va_D A [(a_t, .inr (12, [.ref a_t_now, .ref a_t_tried, .ref a_t_kept, .int t_undos, .ref a_t_saved, .int t_isSaved, .ref a_t_line, .int t_lined, .ref a_t_text, .int t_length, .int t_at, .int t_order, .ref a_t_told, .int t_fault, .int t_reason_w, .int t_detail_w, .int t_index_w, .int t_answer_w, .int t_thrown, .ref a_t_way, .int t_went, .int t_fell])), (a_t_now, .inl (y 0, 77, .inl t_now_91))] := hD
        refine lv_if_eq (tgt := 103) hx hb dX8_files_94 (by decide) (fun c_94 => ?_) (fun c_94 => ?_)
        · have hF := ift hF c_94
          refine lv_aload_n hx hb dX8_files_103 rfl (lv_at hl 0 rfl) ?_
          refine lv_iload_n hx hb dX8_files_104 rfl (lv_at hl 1 rfl) ?_
          refine lv_iconst (v := 0) hx hb dX8_files_105 (by decide) ?_
          obtain ⟨r_106bb, hq_106bb, hF⟩ := bn_i hF
          refine cr_V (As := [.int x1, .int (0 : Int32)]) (rest := []) ⟨hx, hb, hml, hown, hts⟩ (c_X8_lower l D y fl a_t a_t_now a_t_tried a_t_kept a_t_saved a_t_line a_t_text a_t_told a_t_way t_undos t_isSaved t_lined t_length t_at t_order t_fault t_reason_w t_detail_w t_index_w t_answer_w t_thrown t_went t_fell t_now_91 x1 (0 : Int32) r_106bb hq_106bb) (cwV 2 hts gX8_files_X8_lower rfl rfl rfl (by decide +kernel) ⟨Nat.le_of_ble_eq_true rfl, Nat.le_of_ble_eq_true rfl⟩) hK hP [0, 1] rfl rfl rfl rfl hl.1 rfl (Nat.le_of_ble_eq_true rfl) dX8_files_106 ⟨Nat.le_of_ble_eq_true rfl, Nat.le_of_ble_eq_true rfl⟩ ?_
          refine lv_istore (lv' := [(6, .int r_106bb), (0, .ref a_t), (1, .int x1), (2, .int x2), (3, .int x3), (4, .int x4), (5, .int x5)]) hx hb dX8_files_109 hl (by decide) rfl (fun ls hl => ?_)
          refine lv_iconst (v := 5) hx hb dX8_files_111 (by decide) ?_
          refine lv_iconst (v := 3) hx hb dX8_files_112 (by decide) ?_
          refine lv_aload_n hx hb dX8_files_113 rfl (lv_at hl 1 rfl) ?_
          refine va_get (D := D) (ci := 12) (v := .ref a_t_now) (C := RX8) (T := TX8) (N := 22) hx hb hts iX8_files_X8 hown hK hP 0 rfl rfl 0 (by decide) (hts (.fieldLink RX8 9 "SkipArchiveModel" "now" "[I") (List.mem_of_getElem? (i := 1) rfl)) (fun _ h9 => h9) rfl dX8_files_114 ?_
          refine lv_iconst (v := 0) hx hb dX8_files_117 (by decide) ?_
          obtain ⟨g_118bb, hF⟩ := gi_i hF
          refine va_iald hx hb hK hP 1 0 rfl rfl g_118bb dX8_files_118 ?_
          refine lv_imul hx hb dX8_files_119 ?_
          refine lv_iadd hx hb dX8_files_120 ?_
          refine lv_iconst (v := 1) hx hb dX8_files_121 (by decide) ?_
          refine lv_isub hx hb dX8_files_122 ?_
          refine lv_istore (lv' := [(7, .int (((5 : Int32) + ((3 : Int32) * (t_now_91 (0 : Int32).toNatClampNeg))) - (1 : Int32))), (6, .int r_106bb), (0, .ref a_t), (1, .int x1), (2, .int x2), (3, .int x3), (4, .int x4), (5, .int x5)]) hx hb dX8_files_123 hl (by decide) rfl (fun ls hl => ?_)
          exact k_125 fl t_reason_w t_detail_w t_index_w t_answer_w t_now_91 x1 x2 x3 x4 x5 r_106bb (((5 : Int32) + ((3 : Int32) * (t_now_91 (0 : Int32).toNatClampNeg))) - (1 : Int32)) hF _ _ hP hD hS ls (lv_sub hl [2, 3, 4, 5, 6, 7, 1, 0] rfl)
        · have hF := iff_ hF c_94
          refine lv_iinc (v := x5 + (1 : Int32)) (lv' := [(5, .int (x5 + (1 : Int32))), (0, .ref a_t), (1, .int x1), (2, .int x2), (3, .int x3), (4, .int x4)]) hx hb dX8_files_97 hl (k := 5) rfl rfl (by decide) rfl (fun ls hl => ?_)
          refine lv_goto (tgt := 84) hx hb dX8_files_100 (by decide) ?_
          exact ih t_reason_w t_detail_w t_index_w t_answer_w t_now_91 x1 x2 x3 x4 (x5 + (1 : Int32)) hF _ _ hP hD hS ls (lv_sub hl [1, 2, 3, 4, 5, 0] rfl)
  refine W_entry hav (Nat.le_of_ble_eq_true rfl) (fun ls hl => ?_)
  have hl : lv_has ls 8 [(0, .ref a_t), (1, .int p1), (2, .int p2), (3, .int p3), (4, .int p4)] := hl
  refine lv_iload_n hx hb dX8_files_0 rfl (lv_at hl 1 rfl) ?_
  obtain ⟨r_1, hq_1, hF⟩ := bn_i hF
  refine cr_S (As := [.int p1]) (rest := []) ⟨hx, hb, hml, hown, hts⟩ (c_X8_isKey l D y fl p1 r_1 hq_1) (va_cwS 1 hts gX8_files_X8_isKey rfl rfl rfl (by decide +kernel) ⟨Nat.le_of_ble_eq_true rfl, Nat.le_of_ble_eq_true rfl⟩) hK hP [] rfl rfl hl.1 rfl (Nat.le_of_ble_eq_true rfl) dX8_files_1 ⟨Nat.le_of_ble_eq_true rfl, Nat.le_of_ble_eq_true rfl⟩ ?_
  refine lv_if_eq (tgt := 28) hx hb dX8_files_4 (by decide) (fun c_4 => ?_) (fun c_4 => ?_)
  · have hF := ift hF c_4
    refine lv_aload_n hx hb dX8_files_28 rfl (lv_at hl 0 rfl) ?_
    refine lv_iconst (v := 1) hx hb dX8_files_29 (by decide) ?_
    refine lv_iconst (v := 0) hx hb dX8_files_30 (by decide) ?_
    obtain ⟨r_31, t_reason_31, t_detail_31, t_index_31, hq_31, hF⟩ := bn4_i hF
    refine cm_Vi (As := [.int (1 : Int32), .int (0 : Int32)]) (rest := []) (wr := [(a_t_now, .inl (y 0, 77, .inl t_now))]) ⟨hx, hb, hml, hown, hts⟩ (c_X8_refuses l D y fl s.heap.size a_t a_t_now a_t_tried a_t_kept a_t_saved a_t_line a_t_text a_t_told a_t_way t_undos t_isSaved t_lined t_length t_at t_order t_fault t_reason t_detail t_index t_answer t_thrown t_went t_fell (1 : Int32) (0 : Int32) r_31 t_reason_31 t_detail_31 t_index_31 hq_31) (cwV 2 hts gX8_files_X8_refuses rfl rfl rfl (by decide +kernel) ⟨Nat.le_of_ble_eq_true rfl, Nat.le_of_ble_eq_true rfl⟩) hK hP hD hS hA [0] [1] rfl rfl rfl rfl (by decide) rfl rfl rfl hl.1 rfl (Nat.le_of_ble_eq_true rfl) dX8_files_31 ⟨Nat.le_of_ble_eq_true rfl, Nat.le_of_ble_eq_true rfl⟩ (fun H locs hP hD hS => ?_)
    have hP : va_P D vwCl [(a_t_now, .inl (y 0, 77, .inl t_now)), (a_t, .inr (12, [.ref a_t_now, .ref a_t_tried, .ref a_t_kept, .int t_undos, .ref a_t_saved, .int t_isSaved, .ref a_t_line, .int t_lined, .ref a_t_text, .int t_length, .int t_at, .int t_order, .ref a_t_told, .int t_fault, .int t_reason_31, .int t_detail_31, .int t_index_31, .int t_answer, .int t_thrown, .ref a_t_way, .int t_went, .int t_fell]))] H := hP
    have hD : va_D A [(a_t_now, .inl (y 0, 77, .inl t_now)), (a_t, .inr (12, [.ref a_t_now, .ref a_t_tried, .ref a_t_kept, .int t_undos, .ref a_t_saved, .int t_isSaved, .ref a_t_line, .int t_lined, .ref a_t_text, .int t_length, .int t_at, .int t_order, .ref a_t_told, .int t_fault, .int t_reason_31, .int t_detail_31, .int t_index_31, .int t_answer, .int t_thrown, .ref a_t_way, .int t_went, .int t_fell]))] := hD
    obtain ⟨g_34, hF⟩ := gd_i hF
    obtain ⟨e0_34, e1_34, e2_34, e3_34, e4_34, e5_34⟩ := inj6 hF
    rw [← e0_34, ← e1_34, ← e2_34, ← e3_34, ← e4_34, ← e5_34] at hQ0
    rw [hQ0]
    exact ret_z hx hb hr (okB_n g_34).1 hlocks hAe hK hP hD hS [1, 0] rfl rfl dX8_files_34
  · have hF := iff_ hF c_4
    refine lv_iload_n hx hb dX8_files_7 rfl (lv_at hl 2 rfl) ?_
    obtain ⟨r_8, hq_8, hF⟩ := bn_i hF
    refine cr_S (As := [.int p2]) (rest := []) ⟨hx, hb, hml, hown, hts⟩ (c_X8_isWeight l D y fl p2 r_8 hq_8) (va_cwS 1 hts gX8_files_X8_isWeight rfl rfl rfl (by decide +kernel) ⟨Nat.le_of_ble_eq_true rfl, Nat.le_of_ble_eq_true rfl⟩) hK hP [] rfl rfl hl.1 rfl (Nat.le_of_ble_eq_true rfl) dX8_files_8 ⟨Nat.le_of_ble_eq_true rfl, Nat.le_of_ble_eq_true rfl⟩ ?_
    refine lv_if_eq (tgt := 28) hx hb dX8_files_11 (by decide) (fun c_11 => ?_) (fun c_11 => ?_)
    · have hF := ift hF c_11
      refine lv_aload_n hx hb dX8_files_28 rfl (lv_at hl 0 rfl) ?_
      refine lv_iconst (v := 1) hx hb dX8_files_29 (by decide) ?_
      refine lv_iconst (v := 0) hx hb dX8_files_30 (by decide) ?_
      obtain ⟨r_31b, t_reason_31b, t_detail_31b, t_index_31b, hq_31b, hF⟩ := bn4_i hF
      refine cm_Vi (As := [.int (1 : Int32), .int (0 : Int32)]) (rest := []) (wr := [(a_t_now, .inl (y 0, 77, .inl t_now))]) ⟨hx, hb, hml, hown, hts⟩ (c_X8_refuses l D y fl s.heap.size a_t a_t_now a_t_tried a_t_kept a_t_saved a_t_line a_t_text a_t_told a_t_way t_undos t_isSaved t_lined t_length t_at t_order t_fault t_reason t_detail t_index t_answer t_thrown t_went t_fell (1 : Int32) (0 : Int32) r_31b t_reason_31b t_detail_31b t_index_31b hq_31b) (cwV 2 hts gX8_files_X8_refuses rfl rfl rfl (by decide +kernel) ⟨Nat.le_of_ble_eq_true rfl, Nat.le_of_ble_eq_true rfl⟩) hK hP hD hS hA [0] [1] rfl rfl rfl rfl (by decide) rfl rfl rfl hl.1 rfl (Nat.le_of_ble_eq_true rfl) dX8_files_31 ⟨Nat.le_of_ble_eq_true rfl, Nat.le_of_ble_eq_true rfl⟩ (fun H locs hP hD hS => ?_)
      have hP : va_P D vwCl [(a_t_now, .inl (y 0, 77, .inl t_now)), (a_t, .inr (12, [.ref a_t_now, .ref a_t_tried, .ref a_t_kept, .int t_undos, .ref a_t_saved, .int t_isSaved, .ref a_t_line, .int t_lined, .ref a_t_text, .int t_length, .int t_at, .int t_order, .ref a_t_told, .int t_fault, .int t_reason_31b, .int t_detail_31b, .int t_index_31b, .int t_answer, .int t_thrown, .ref a_t_way, .int t_went, .int t_fell]))] H := hP
      have hD : va_D A [(a_t_now, .inl (y 0, 77, .inl t_now)), (a_t, .inr (12, [.ref a_t_now, .ref a_t_tried, .ref a_t_kept, .int t_undos, .ref a_t_saved, .int t_isSaved, .ref a_t_line, .int t_lined, .ref a_t_text, .int t_length, .int t_at, .int t_order, .ref a_t_told, .int t_fault, .int t_reason_31b, .int t_detail_31b, .int t_index_31b, .int t_answer, .int t_thrown, .ref a_t_way, .int t_went, .int t_fell]))] := hD
      obtain ⟨g_34b, hF⟩ := gd_i hF
      obtain ⟨e0_34, e1_34, e2_34, e3_34, e4_34, e5_34⟩ := inj6 hF
      rw [← e0_34, ← e1_34, ← e2_34, ← e3_34, ← e4_34, ← e5_34] at hQ0
      rw [hQ0]
      exact ret_z hx hb hr (okB_n g_34b).1 hlocks hAe hK hP hD hS [1, 0] rfl rfl dX8_files_34
    · have hF := iff_ hF c_11
      refine lv_iload hx hb dX8_files_14 (lv_at hl 4 rfl) ?_
      refine lv_if_eq (tgt := 35) hx hb dX8_files_16 (by decide) (fun c_16 => ?_) (fun c_16 => ?_)
      · have hF := ift hF c_16
        refine lv_aload_n hx hb dX8_files_35 rfl (lv_at hl 0 rfl) ?_
        refine lv_iload_n hx hb dX8_files_36 rfl (lv_at hl 1 rfl) ?_
        obtain ⟨r_37, hq_37, hF⟩ := bn_i hF
        refine cr_V (As := [.int p1]) (rest := []) ⟨hx, hb, hml, hown, hts⟩ (c_X8_find l D y fl a_t a_t_now a_t_tried a_t_kept a_t_saved a_t_line a_t_text a_t_told a_t_way t_undos t_isSaved t_lined t_length t_at t_order t_fault t_reason t_detail t_index t_answer t_thrown t_went t_fell t_now p1 r_37 hq_37) (cwV 1 hts gX8_files_X8_find rfl rfl rfl (by decide +kernel) ⟨Nat.le_of_ble_eq_true rfl, Nat.le_of_ble_eq_true rfl⟩) hK hP [0, 1] rfl rfl rfl rfl hl.1 rfl (Nat.le_of_ble_eq_true rfl) dX8_files_37 ⟨Nat.le_of_ble_eq_true rfl, Nat.le_of_ble_eq_true rfl⟩ ?_
        refine lv_if_lt (tgt := 54) hx hb dX8_files_40 (by decide) (fun c_40 => ?_) (fun c_40 => ?_)
        · have hF := ift hF c_40
          refine lv_aload_n hx hb dX8_files_54 rfl (lv_at hl 0 rfl) ?_
          refine va_get (D := D) (ci := 12) (v := .ref a_t_now) (C := RX8) (T := TX8) (N := 22) hx hb hts iX8_files_X8 hown hK hP 0 rfl rfl 0 (by decide) (hts (.fieldLink RX8 9 "SkipArchiveModel" "now" "[I") (List.mem_of_getElem? (i := 1) rfl)) (fun _ h9 => h9) rfl dX8_files_55 ?_
          refine lv_iconst (v := 0) hx hb dX8_files_58 (by decide) ?_
          obtain ⟨g_59, hF⟩ := gi_i hF
          refine va_iald hx hb hK hP 1 0 rfl rfl g_59 dX8_files_59 ?_
          refine lv_bipush (v := 24) hx hb dX8_files_60 (by decide) ?_
          refine lv_icmp_ne (tgt := 73) hx hb dX8_files_62 (by decide) (fun c_62 => ?_) (fun c_62 => ?_)
          · have hF := iff_ hF c_62
            refine lv_iload_n hx hb dX8_files_73 rfl (lv_at hl 3 rfl) ?_
            refine lv_istore (lv' := [(5, .int p3), (0, .ref a_t), (1, .int p1), (2, .int p2), (3, .int p3), (4, .int p4)]) hx hb dX8_files_74 hl (by decide) rfl (fun ls hl => ?_)
            refine lv_iload hx hb dX8_files_76 (lv_at hl 5 rfl) ?_
            refine lv_if_ne (tgt := 103) hx hb dX8_files_78 (by decide) (fun c_78 => ?_) (fun c_78 => ?_)
            · have hF := iff_ hF c_78
              refine lv_aload_n hx hb dX8_files_103 rfl (lv_at hl 1 rfl) ?_
              refine lv_iload_n hx hb dX8_files_104 rfl (lv_at hl 2 rfl) ?_
              refine lv_iconst (v := 0) hx hb dX8_files_105 (by decide) ?_
              obtain ⟨r_106, hq_106, hF⟩ := bn_i hF
              refine cr_V (As := [.int p1, .int (0 : Int32)]) (rest := []) ⟨hx, hb, hml, hown, hts⟩ (c_X8_lower l D y fl a_t a_t_now a_t_tried a_t_kept a_t_saved a_t_line a_t_text a_t_told a_t_way t_undos t_isSaved t_lined t_length t_at t_order t_fault t_reason t_detail t_index t_answer t_thrown t_went t_fell t_now p1 (0 : Int32) r_106 hq_106) (cwV 2 hts gX8_files_X8_lower rfl rfl rfl (by decide +kernel) ⟨Nat.le_of_ble_eq_true rfl, Nat.le_of_ble_eq_true rfl⟩) hK hP [0, 1] rfl rfl rfl rfl hl.1 rfl (Nat.le_of_ble_eq_true rfl) dX8_files_106 ⟨Nat.le_of_ble_eq_true rfl, Nat.le_of_ble_eq_true rfl⟩ ?_
              refine lv_istore (lv' := [(6, .int r_106), (5, .int p3), (0, .ref a_t), (1, .int p1), (2, .int p2), (3, .int p3), (4, .int p4)]) hx hb dX8_files_109 hl (by decide) rfl (fun ls hl => ?_)
              refine lv_iconst (v := 5) hx hb dX8_files_111 (by decide) ?_
              refine lv_iconst (v := 3) hx hb dX8_files_112 (by decide) ?_
              refine lv_aload_n hx hb dX8_files_113 rfl (lv_at hl 2 rfl) ?_
              refine va_get (D := D) (ci := 12) (v := .ref a_t_now) (C := RX8) (T := TX8) (N := 22) hx hb hts iX8_files_X8 hown hK hP 0 rfl rfl 0 (by decide) (hts (.fieldLink RX8 9 "SkipArchiveModel" "now" "[I") (List.mem_of_getElem? (i := 1) rfl)) (fun _ h9 => h9) rfl dX8_files_114 ?_
              refine lv_iconst (v := 0) hx hb dX8_files_117 (by decide) ?_
              obtain ⟨g_118, hF⟩ := gi_i hF
              refine va_iald hx hb hK hP 1 0 rfl rfl g_118 dX8_files_118 ?_
              refine lv_imul hx hb dX8_files_119 ?_
              refine lv_iadd hx hb dX8_files_120 ?_
              refine lv_iconst (v := 1) hx hb dX8_files_121 (by decide) ?_
              refine lv_isub hx hb dX8_files_122 ?_
              refine lv_istore (lv' := [(7, .int (((5 : Int32) + ((3 : Int32) * (t_now (0 : Int32).toNatClampNeg))) - (1 : Int32))), (6, .int r_106), (5, .int p3), (0, .ref a_t), (1, .int p1), (2, .int p2), (3, .int p3), (4, .int p4)]) hx hb dX8_files_123 hl (by decide) rfl (fun ls hl => ?_)
              exact k_125 fl t_reason t_detail t_index t_answer t_now p1 p2 p3 p4 p3 r_106 (((5 : Int32) + ((3 : Int32) * (t_now (0 : Int32).toNatClampNeg))) - (1 : Int32)) hF _ _ hP hD hS ls (lv_sub hl [3, 4, 5, 6, 7, 2, 1, 0] rfl)
            · have hF := ift hF c_78
              refine lv_iconst (v := 1) hx hb dX8_files_81 (by decide) ?_
              refine lv_istore (lv' := [(5, .int (1 : Int32)), (0, .ref a_t), (1, .int p1), (2, .int p2), (3, .int p3), (4, .int p4)]) hx hb dX8_files_82 hl (by decide) rfl (fun ls hl => ?_)
              exact k_84 fl t_reason t_detail t_index t_answer t_now p1 p2 p3 p4 (1 : Int32) hF _ _ hP hD hS ls (lv_sub hl [1, 2, 3, 4, 5, 0] rfl)
          · have hF := ift hF c_62
            refine lv_aload_n hx hb dX8_files_65 rfl (lv_at hl 0 rfl) ?_
            refine lv_iconst (v := 2) hx hb dX8_files_66 (by decide) ?_
            refine lv_bipush (v := 24) hx hb dX8_files_67 (by decide) ?_
            obtain ⟨r_69, t_reason_69, t_detail_69, t_index_69, hq_69, hF⟩ := bn4_i hF
            refine cm_Vi (As := [.int (2 : Int32), .int (24 : Int32)]) (rest := []) (wr := [(a_t_now, .inl (y 0, 77, .inl t_now))]) ⟨hx, hb, hml, hown, hts⟩ (c_X8_refuses l D y fl s.heap.size a_t a_t_now a_t_tried a_t_kept a_t_saved a_t_line a_t_text a_t_told a_t_way t_undos t_isSaved t_lined t_length t_at t_order t_fault t_reason t_detail t_index t_answer t_thrown t_went t_fell (2 : Int32) (24 : Int32) r_69 t_reason_69 t_detail_69 t_index_69 hq_69) (cwV 2 hts gX8_files_X8_refuses rfl rfl rfl (by decide +kernel) ⟨Nat.le_of_ble_eq_true rfl, Nat.le_of_ble_eq_true rfl⟩) hK hP hD hS hA [0] [1] rfl rfl rfl rfl (by decide) rfl rfl rfl hl.1 rfl (Nat.le_of_ble_eq_true rfl) dX8_files_69 ⟨Nat.le_of_ble_eq_true rfl, Nat.le_of_ble_eq_true rfl⟩ (fun H locs hP hD hS => ?_)
            have hP : va_P D vwCl [(a_t_now, .inl (y 0, 77, .inl t_now)), (a_t, .inr (12, [.ref a_t_now, .ref a_t_tried, .ref a_t_kept, .int t_undos, .ref a_t_saved, .int t_isSaved, .ref a_t_line, .int t_lined, .ref a_t_text, .int t_length, .int t_at, .int t_order, .ref a_t_told, .int t_fault, .int t_reason_69, .int t_detail_69, .int t_index_69, .int t_answer, .int t_thrown, .ref a_t_way, .int t_went, .int t_fell]))] H := hP
            have hD : va_D A [(a_t_now, .inl (y 0, 77, .inl t_now)), (a_t, .inr (12, [.ref a_t_now, .ref a_t_tried, .ref a_t_kept, .int t_undos, .ref a_t_saved, .int t_isSaved, .ref a_t_line, .int t_lined, .ref a_t_text, .int t_length, .int t_at, .int t_order, .ref a_t_told, .int t_fault, .int t_reason_69, .int t_detail_69, .int t_index_69, .int t_answer, .int t_thrown, .ref a_t_way, .int t_went, .int t_fell]))] := hD
            obtain ⟨g_72, hF⟩ := gd_i hF
            obtain ⟨e0_72, e1_72, e2_72, e3_72, e4_72, e5_72⟩ := inj6 hF
            rw [← e0_72, ← e1_72, ← e2_72, ← e3_72, ← e4_72, ← e5_72] at hQ0
            rw [hQ0]
            exact ret_z hx hb hr (okB_n g_72).1 hlocks hAe hK hP hD hS [1, 0] rfl rfl dX8_files_72
        · have hF := iff_ hF c_40
          refine lv_aload_n hx hb dX8_files_43 rfl (lv_at hl 0 rfl) ?_
          refine lv_iconst (v := 4) hx hb dX8_files_44 (by decide) ?_
          refine lv_aload_n hx hb dX8_files_45 rfl (lv_at hl 0 rfl) ?_
          refine lv_iload_n hx hb dX8_files_46 rfl (lv_at hl 1 rfl) ?_
          obtain ⟨r_47, hq_47, hF⟩ := bn_i hF
          refine cr_V (As := [.int p1]) (rest := [.int (4 : Int32), .ref a_t]) ⟨hx, hb, hml, hown, hts⟩ (c_X8_find l D y fl a_t a_t_now a_t_tried a_t_kept a_t_saved a_t_line a_t_text a_t_told a_t_way t_undos t_isSaved t_lined t_length t_at t_order t_fault t_reason t_detail t_index t_answer t_thrown t_went t_fell t_now p1 r_47 hq_47) (cwV 1 hts gX8_files_X8_find rfl rfl rfl (by decide +kernel) ⟨Nat.le_of_ble_eq_true rfl, Nat.le_of_ble_eq_true rfl⟩) hK hP [0, 1] rfl rfl rfl rfl hl.1 rfl (Nat.le_of_ble_eq_true rfl) dX8_files_47 ⟨Nat.le_of_ble_eq_true rfl, Nat.le_of_ble_eq_true rfl⟩ ?_
          obtain ⟨r_50, t_reason_50, t_detail_50, t_index_50, hq_50, hF⟩ := bn4_i hF
          refine cm_Vi (As := [.int (4 : Int32), .int r_47]) (rest := []) (wr := [(a_t_now, .inl (y 0, 77, .inl t_now))]) ⟨hx, hb, hml, hown, hts⟩ (c_X8_refuses l D y fl s.heap.size a_t a_t_now a_t_tried a_t_kept a_t_saved a_t_line a_t_text a_t_told a_t_way t_undos t_isSaved t_lined t_length t_at t_order t_fault t_reason t_detail t_index t_answer t_thrown t_went t_fell (4 : Int32) r_47 r_50 t_reason_50 t_detail_50 t_index_50 hq_50) (cwV 2 hts gX8_files_X8_refuses rfl rfl rfl (by decide +kernel) ⟨Nat.le_of_ble_eq_true rfl, Nat.le_of_ble_eq_true rfl⟩) hK hP hD hS hA [0] [1] rfl rfl rfl rfl (by decide) rfl rfl rfl hl.1 rfl (Nat.le_of_ble_eq_true rfl) dX8_files_50 ⟨Nat.le_of_ble_eq_true rfl, Nat.le_of_ble_eq_true rfl⟩ (fun H locs hP hD hS => ?_)
          have hP : va_P D vwCl [(a_t_now, .inl (y 0, 77, .inl t_now)), (a_t, .inr (12, [.ref a_t_now, .ref a_t_tried, .ref a_t_kept, .int t_undos, .ref a_t_saved, .int t_isSaved, .ref a_t_line, .int t_lined, .ref a_t_text, .int t_length, .int t_at, .int t_order, .ref a_t_told, .int t_fault, .int t_reason_50, .int t_detail_50, .int t_index_50, .int t_answer, .int t_thrown, .ref a_t_way, .int t_went, .int t_fell]))] H := hP
          have hD : va_D A [(a_t_now, .inl (y 0, 77, .inl t_now)), (a_t, .inr (12, [.ref a_t_now, .ref a_t_tried, .ref a_t_kept, .int t_undos, .ref a_t_saved, .int t_isSaved, .ref a_t_line, .int t_lined, .ref a_t_text, .int t_length, .int t_at, .int t_order, .ref a_t_told, .int t_fault, .int t_reason_50, .int t_detail_50, .int t_index_50, .int t_answer, .int t_thrown, .ref a_t_way, .int t_went, .int t_fell]))] := hD
          obtain ⟨g_53, hF⟩ := gd_i hF
          obtain ⟨e0_53, e1_53, e2_53, e3_53, e4_53, e5_53⟩ := inj6 hF
          rw [← e0_53, ← e1_53, ← e2_53, ← e3_53, ← e4_53, ← e5_53] at hQ0
          rw [hQ0]
          exact ret_z hx hb hr (okB_n g_53).1 hlocks hAe hK hP hD hS [1, 0] rfl rfl dX8_files_53
      · have hF := iff_ hF c_16
        refine lv_iload_n hx hb dX8_files_19 rfl (lv_at hl 3 rfl) ?_
        refine lv_iconst (v := 1) hx hb dX8_files_20 (by decide) ?_
        refine lv_iconst (v := 5) hx hb dX8_files_21 (by decide) ?_
        obtain ⟨r_22, hq_22, hF⟩ := bn_i hF
        refine cr_S (As := [.int p3, .int (1 : Int32), .int (5 : Int32)]) (rest := []) ⟨hx, hb, hml, hown, hts⟩ (c_X8_in l D y fl p3 (1 : Int32) (5 : Int32) r_22 hq_22) (va_cwS 3 hts gX8_files_X8_in rfl rfl rfl (by decide +kernel) ⟨Nat.le_of_ble_eq_true rfl, Nat.le_of_ble_eq_true rfl⟩) hK hP [] rfl rfl hl.1 rfl (Nat.le_of_ble_eq_true rfl) dX8_files_22 ⟨Nat.le_of_ble_eq_true rfl, Nat.le_of_ble_eq_true rfl⟩ ?_
        refine lv_if_ne (tgt := 35) hx hb dX8_files_25 (by decide) (fun c_25 => ?_) (fun c_25 => ?_)
        · have hF := iff_ hF c_25
          refine lv_aload_n hx hb dX8_files_35 rfl (lv_at hl 0 rfl) ?_
          refine lv_iload_n hx hb dX8_files_36 rfl (lv_at hl 1 rfl) ?_
          obtain ⟨r_37b, hq_37b, hF⟩ := bn_i hF
          refine cr_V (As := [.int p1]) (rest := []) ⟨hx, hb, hml, hown, hts⟩ (c_X8_find l D y fl a_t a_t_now a_t_tried a_t_kept a_t_saved a_t_line a_t_text a_t_told a_t_way t_undos t_isSaved t_lined t_length t_at t_order t_fault t_reason t_detail t_index t_answer t_thrown t_went t_fell t_now p1 r_37b hq_37b) (cwV 1 hts gX8_files_X8_find rfl rfl rfl (by decide +kernel) ⟨Nat.le_of_ble_eq_true rfl, Nat.le_of_ble_eq_true rfl⟩) hK hP [0, 1] rfl rfl rfl rfl hl.1 rfl (Nat.le_of_ble_eq_true rfl) dX8_files_37 ⟨Nat.le_of_ble_eq_true rfl, Nat.le_of_ble_eq_true rfl⟩ ?_
          refine lv_if_lt (tgt := 54) hx hb dX8_files_40 (by decide) (fun c_40b => ?_) (fun c_40b => ?_)
          · have hF := ift hF c_40b
            refine lv_aload_n hx hb dX8_files_54 rfl (lv_at hl 0 rfl) ?_
            refine va_get (D := D) (ci := 12) (v := .ref a_t_now) (C := RX8) (T := TX8) (N := 22) hx hb hts iX8_files_X8 hown hK hP 0 rfl rfl 0 (by decide) (hts (.fieldLink RX8 9 "SkipArchiveModel" "now" "[I") (List.mem_of_getElem? (i := 1) rfl)) (fun _ h9 => h9) rfl dX8_files_55 ?_
            refine lv_iconst (v := 0) hx hb dX8_files_58 (by decide) ?_
            obtain ⟨g_59b, hF⟩ := gi_i hF
            refine va_iald hx hb hK hP 1 0 rfl rfl g_59b dX8_files_59 ?_
            refine lv_bipush (v := 24) hx hb dX8_files_60 (by decide) ?_
            refine lv_icmp_ne (tgt := 73) hx hb dX8_files_62 (by decide) (fun c_62b => ?_) (fun c_62b => ?_)
            · have hF := iff_ hF c_62b
              refine lv_iload_n hx hb dX8_files_73 rfl (lv_at hl 3 rfl) ?_
              refine lv_istore (lv' := [(5, .int p3), (0, .ref a_t), (1, .int p1), (2, .int p2), (3, .int p3), (4, .int p4)]) hx hb dX8_files_74 hl (by decide) rfl (fun ls hl => ?_)
              refine lv_iload hx hb dX8_files_76 (lv_at hl 5 rfl) ?_
              refine lv_if_ne (tgt := 103) hx hb dX8_files_78 (by decide) (fun c_78b => ?_) (fun c_78b => ?_)
              · have hF := iff_ hF c_78b
                refine lv_aload_n hx hb dX8_files_103 rfl (lv_at hl 1 rfl) ?_
                refine lv_iload_n hx hb dX8_files_104 rfl (lv_at hl 2 rfl) ?_
                refine lv_iconst (v := 0) hx hb dX8_files_105 (by decide) ?_
                obtain ⟨r_106bbb, hq_106bbb, hF⟩ := bn_i hF
                refine cr_V (As := [.int p1, .int (0 : Int32)]) (rest := []) ⟨hx, hb, hml, hown, hts⟩ (c_X8_lower l D y fl a_t a_t_now a_t_tried a_t_kept a_t_saved a_t_line a_t_text a_t_told a_t_way t_undos t_isSaved t_lined t_length t_at t_order t_fault t_reason t_detail t_index t_answer t_thrown t_went t_fell t_now p1 (0 : Int32) r_106bbb hq_106bbb) (cwV 2 hts gX8_files_X8_lower rfl rfl rfl (by decide +kernel) ⟨Nat.le_of_ble_eq_true rfl, Nat.le_of_ble_eq_true rfl⟩) hK hP [0, 1] rfl rfl rfl rfl hl.1 rfl (Nat.le_of_ble_eq_true rfl) dX8_files_106 ⟨Nat.le_of_ble_eq_true rfl, Nat.le_of_ble_eq_true rfl⟩ ?_
                refine lv_istore (lv' := [(6, .int r_106bbb), (5, .int p3), (0, .ref a_t), (1, .int p1), (2, .int p2), (3, .int p3), (4, .int p4)]) hx hb dX8_files_109 hl (by decide) rfl (fun ls hl => ?_)
                refine lv_iconst (v := 5) hx hb dX8_files_111 (by decide) ?_
                refine lv_iconst (v := 3) hx hb dX8_files_112 (by decide) ?_
                refine lv_aload_n hx hb dX8_files_113 rfl (lv_at hl 2 rfl) ?_
                refine va_get (D := D) (ci := 12) (v := .ref a_t_now) (C := RX8) (T := TX8) (N := 22) hx hb hts iX8_files_X8 hown hK hP 0 rfl rfl 0 (by decide) (hts (.fieldLink RX8 9 "SkipArchiveModel" "now" "[I") (List.mem_of_getElem? (i := 1) rfl)) (fun _ h9 => h9) rfl dX8_files_114 ?_
                refine lv_iconst (v := 0) hx hb dX8_files_117 (by decide) ?_
                obtain ⟨g_118bbb, hF⟩ := gi_i hF
                refine va_iald hx hb hK hP 1 0 rfl rfl g_118bbb dX8_files_118 ?_
                refine lv_imul hx hb dX8_files_119 ?_
                refine lv_iadd hx hb dX8_files_120 ?_
                refine lv_iconst (v := 1) hx hb dX8_files_121 (by decide) ?_
                refine lv_isub hx hb dX8_files_122 ?_
                refine lv_istore (lv' := [(7, .int (((5 : Int32) + ((3 : Int32) * (t_now (0 : Int32).toNatClampNeg))) - (1 : Int32))), (6, .int r_106bbb), (5, .int p3), (0, .ref a_t), (1, .int p1), (2, .int p2), (3, .int p3), (4, .int p4)]) hx hb dX8_files_123 hl (by decide) rfl (fun ls hl => ?_)
                exact k_125 fl t_reason t_detail t_index t_answer t_now p1 p2 p3 p4 p3 r_106bbb (((5 : Int32) + ((3 : Int32) * (t_now (0 : Int32).toNatClampNeg))) - (1 : Int32)) hF _ _ hP hD hS ls (lv_sub hl [3, 4, 5, 6, 7, 2, 1, 0] rfl)
              · have hF := ift hF c_78b
                refine lv_iconst (v := 1) hx hb dX8_files_81 (by decide) ?_
                refine lv_istore (lv' := [(5, .int (1 : Int32)), (0, .ref a_t), (1, .int p1), (2, .int p2), (3, .int p3), (4, .int p4)]) hx hb dX8_files_82 hl (by decide) rfl (fun ls hl => ?_)
                exact k_84 fl t_reason t_detail t_index t_answer t_now p1 p2 p3 p4 (1 : Int32) hF _ _ hP hD hS ls (lv_sub hl [1, 2, 3, 4, 5, 0] rfl)
            · have hF := ift hF c_62b
              refine lv_aload_n hx hb dX8_files_65 rfl (lv_at hl 0 rfl) ?_
              refine lv_iconst (v := 2) hx hb dX8_files_66 (by decide) ?_
              refine lv_bipush (v := 24) hx hb dX8_files_67 (by decide) ?_
              obtain ⟨r_69b, t_reason_69b, t_detail_69b, t_index_69b, hq_69b, hF⟩ := bn4_i hF
              refine cm_Vi (As := [.int (2 : Int32), .int (24 : Int32)]) (rest := []) (wr := [(a_t_now, .inl (y 0, 77, .inl t_now))]) ⟨hx, hb, hml, hown, hts⟩ (c_X8_refuses l D y fl s.heap.size a_t a_t_now a_t_tried a_t_kept a_t_saved a_t_line a_t_text a_t_told a_t_way t_undos t_isSaved t_lined t_length t_at t_order t_fault t_reason t_detail t_index t_answer t_thrown t_went t_fell (2 : Int32) (24 : Int32) r_69b t_reason_69b t_detail_69b t_index_69b hq_69b) (cwV 2 hts gX8_files_X8_refuses rfl rfl rfl (by decide +kernel) ⟨Nat.le_of_ble_eq_true rfl, Nat.le_of_ble_eq_true rfl⟩) hK hP hD hS hA [0] [1] rfl rfl rfl rfl (by decide) rfl rfl rfl hl.1 rfl (Nat.le_of_ble_eq_true rfl) dX8_files_69 ⟨Nat.le_of_ble_eq_true rfl, Nat.le_of_ble_eq_true rfl⟩ (fun H locs hP hD hS => ?_)
              have hP : va_P D vwCl [(a_t_now, .inl (y 0, 77, .inl t_now)), (a_t, .inr (12, [.ref a_t_now, .ref a_t_tried, .ref a_t_kept, .int t_undos, .ref a_t_saved, .int t_isSaved, .ref a_t_line, .int t_lined, .ref a_t_text, .int t_length, .int t_at, .int t_order, .ref a_t_told, .int t_fault, .int t_reason_69b, .int t_detail_69b, .int t_index_69b, .int t_answer, .int t_thrown, .ref a_t_way, .int t_went, .int t_fell]))] H := hP
              have hD : va_D A [(a_t_now, .inl (y 0, 77, .inl t_now)), (a_t, .inr (12, [.ref a_t_now, .ref a_t_tried, .ref a_t_kept, .int t_undos, .ref a_t_saved, .int t_isSaved, .ref a_t_line, .int t_lined, .ref a_t_text, .int t_length, .int t_at, .int t_order, .ref a_t_told, .int t_fault, .int t_reason_69b, .int t_detail_69b, .int t_index_69b, .int t_answer, .int t_thrown, .ref a_t_way, .int t_went, .int t_fell]))] := hD
              obtain ⟨g_72b, hF⟩ := gd_i hF
              obtain ⟨e0_72, e1_72, e2_72, e3_72, e4_72, e5_72⟩ := inj6 hF
              rw [← e0_72, ← e1_72, ← e2_72, ← e3_72, ← e4_72, ← e5_72] at hQ0
              rw [hQ0]
              exact ret_z hx hb hr (okB_n g_72b).1 hlocks hAe hK hP hD hS [1, 0] rfl rfl dX8_files_72
          · have hF := iff_ hF c_40b
            refine lv_aload_n hx hb dX8_files_43 rfl (lv_at hl 0 rfl) ?_
            refine lv_iconst (v := 4) hx hb dX8_files_44 (by decide) ?_
            refine lv_aload_n hx hb dX8_files_45 rfl (lv_at hl 0 rfl) ?_
            refine lv_iload_n hx hb dX8_files_46 rfl (lv_at hl 1 rfl) ?_
            obtain ⟨r_47b, hq_47b, hF⟩ := bn_i hF
            refine cr_V (As := [.int p1]) (rest := [.int (4 : Int32), .ref a_t]) ⟨hx, hb, hml, hown, hts⟩ (c_X8_find l D y fl a_t a_t_now a_t_tried a_t_kept a_t_saved a_t_line a_t_text a_t_told a_t_way t_undos t_isSaved t_lined t_length t_at t_order t_fault t_reason t_detail t_index t_answer t_thrown t_went t_fell t_now p1 r_47b hq_47b) (cwV 1 hts gX8_files_X8_find rfl rfl rfl (by decide +kernel) ⟨Nat.le_of_ble_eq_true rfl, Nat.le_of_ble_eq_true rfl⟩) hK hP [0, 1] rfl rfl rfl rfl hl.1 rfl (Nat.le_of_ble_eq_true rfl) dX8_files_47 ⟨Nat.le_of_ble_eq_true rfl, Nat.le_of_ble_eq_true rfl⟩ ?_
            obtain ⟨r_50b, t_reason_50b, t_detail_50b, t_index_50b, hq_50b, hF⟩ := bn4_i hF
            refine cm_Vi (As := [.int (4 : Int32), .int r_47b]) (rest := []) (wr := [(a_t_now, .inl (y 0, 77, .inl t_now))]) ⟨hx, hb, hml, hown, hts⟩ (c_X8_refuses l D y fl s.heap.size a_t a_t_now a_t_tried a_t_kept a_t_saved a_t_line a_t_text a_t_told a_t_way t_undos t_isSaved t_lined t_length t_at t_order t_fault t_reason t_detail t_index t_answer t_thrown t_went t_fell (4 : Int32) r_47b r_50b t_reason_50b t_detail_50b t_index_50b hq_50b) (cwV 2 hts gX8_files_X8_refuses rfl rfl rfl (by decide +kernel) ⟨Nat.le_of_ble_eq_true rfl, Nat.le_of_ble_eq_true rfl⟩) hK hP hD hS hA [0] [1] rfl rfl rfl rfl (by decide) rfl rfl rfl hl.1 rfl (Nat.le_of_ble_eq_true rfl) dX8_files_50 ⟨Nat.le_of_ble_eq_true rfl, Nat.le_of_ble_eq_true rfl⟩ (fun H locs hP hD hS => ?_)
            have hP : va_P D vwCl [(a_t_now, .inl (y 0, 77, .inl t_now)), (a_t, .inr (12, [.ref a_t_now, .ref a_t_tried, .ref a_t_kept, .int t_undos, .ref a_t_saved, .int t_isSaved, .ref a_t_line, .int t_lined, .ref a_t_text, .int t_length, .int t_at, .int t_order, .ref a_t_told, .int t_fault, .int t_reason_50b, .int t_detail_50b, .int t_index_50b, .int t_answer, .int t_thrown, .ref a_t_way, .int t_went, .int t_fell]))] H := hP
            have hD : va_D A [(a_t_now, .inl (y 0, 77, .inl t_now)), (a_t, .inr (12, [.ref a_t_now, .ref a_t_tried, .ref a_t_kept, .int t_undos, .ref a_t_saved, .int t_isSaved, .ref a_t_line, .int t_lined, .ref a_t_text, .int t_length, .int t_at, .int t_order, .ref a_t_told, .int t_fault, .int t_reason_50b, .int t_detail_50b, .int t_index_50b, .int t_answer, .int t_thrown, .ref a_t_way, .int t_went, .int t_fell]))] := hD
            obtain ⟨g_53b, hF⟩ := gd_i hF
            obtain ⟨e0_53, e1_53, e2_53, e3_53, e4_53, e5_53⟩ := inj6 hF
            rw [← e0_53, ← e1_53, ← e2_53, ← e3_53, ← e4_53, ← e5_53] at hQ0
            rw [hQ0]
            exact ret_z hx hb hr (okB_n g_53b).1 hlocks hAe hK hP hD hS [1, 0] rfl rfl dX8_files_53
        · have hF := ift hF c_25
          refine lv_aload_n hx hb dX8_files_28 rfl (lv_at hl 0 rfl) ?_
          refine lv_iconst (v := 1) hx hb dX8_files_29 (by decide) ?_
          refine lv_iconst (v := 0) hx hb dX8_files_30 (by decide) ?_
          obtain ⟨r_31bb, t_reason_31bb, t_detail_31bb, t_index_31bb, hq_31bb, hF⟩ := bn4_i hF
          refine cm_Vi (As := [.int (1 : Int32), .int (0 : Int32)]) (rest := []) (wr := [(a_t_now, .inl (y 0, 77, .inl t_now))]) ⟨hx, hb, hml, hown, hts⟩ (c_X8_refuses l D y fl s.heap.size a_t a_t_now a_t_tried a_t_kept a_t_saved a_t_line a_t_text a_t_told a_t_way t_undos t_isSaved t_lined t_length t_at t_order t_fault t_reason t_detail t_index t_answer t_thrown t_went t_fell (1 : Int32) (0 : Int32) r_31bb t_reason_31bb t_detail_31bb t_index_31bb hq_31bb) (cwV 2 hts gX8_files_X8_refuses rfl rfl rfl (by decide +kernel) ⟨Nat.le_of_ble_eq_true rfl, Nat.le_of_ble_eq_true rfl⟩) hK hP hD hS hA [0] [1] rfl rfl rfl rfl (by decide) rfl rfl rfl hl.1 rfl (Nat.le_of_ble_eq_true rfl) dX8_files_31 ⟨Nat.le_of_ble_eq_true rfl, Nat.le_of_ble_eq_true rfl⟩ (fun H locs hP hD hS => ?_)
          have hP : va_P D vwCl [(a_t_now, .inl (y 0, 77, .inl t_now)), (a_t, .inr (12, [.ref a_t_now, .ref a_t_tried, .ref a_t_kept, .int t_undos, .ref a_t_saved, .int t_isSaved, .ref a_t_line, .int t_lined, .ref a_t_text, .int t_length, .int t_at, .int t_order, .ref a_t_told, .int t_fault, .int t_reason_31bb, .int t_detail_31bb, .int t_index_31bb, .int t_answer, .int t_thrown, .ref a_t_way, .int t_went, .int t_fell]))] H := hP
          have hD : va_D A [(a_t_now, .inl (y 0, 77, .inl t_now)), (a_t, .inr (12, [.ref a_t_now, .ref a_t_tried, .ref a_t_kept, .int t_undos, .ref a_t_saved, .int t_isSaved, .ref a_t_line, .int t_lined, .ref a_t_text, .int t_length, .int t_at, .int t_order, .ref a_t_told, .int t_fault, .int t_reason_31bb, .int t_detail_31bb, .int t_index_31bb, .int t_answer, .int t_thrown, .ref a_t_way, .int t_went, .int t_fell]))] := hD
          obtain ⟨g_34bb, hF⟩ := gd_i hF
          obtain ⟨e0_34, e1_34, e2_34, e3_34, e4_34, e5_34⟩ := inj6 hF
          rw [← e0_34, ← e1_34, ← e2_34, ← e3_34, ← e4_34, ← e5_34] at hQ0
          rw [hQ0]
          exact ret_z hx hb hr (okB_n g_34bb).1 hlocks hAe hK hP hD hS [1, 0] rfl rfl dX8_files_34
def F_X8_file (fl : Nat) (t_undos : Int32) (t_reason : Int32) (t_detail : Int32) (t_index : Int32) (t_answer : Int32) (t_thrown : Int32) (t_now : Nat → Int32) (t_tried : Nat → Int32) (t_kept : Nat → Int32) (p1 : Int32) (p2 : Int32) : Option (Int32 × Int32 × Int32 × Int32 × Int32 × Int32 × Int32 × (Nat → Int32) × (Nat → Int32) × (Nat → Int32)) := bn2 (F_X8_tries fl t_thrown t_now t_tried) fun t_thrown_1 t_tried_1 => bn6 (F_X8_files fl t_reason t_detail t_index t_answer t_now p1 p2 (0 : Int32) (0 : Int32)) fun r_10 t_reason_10 t_detail_10 t_index_10 t_answer_10 t_now_10 => bn4 (F_X8_ends fl t_undos t_answer_10 t_thrown_1 t_tried_1 t_kept r_10) fun r_13 t_undos_13 t_thrown_13 t_kept_13 => some (r_13, t_undos_13, t_reason_10, t_detail_10, t_index_10, t_answer_10, t_thrown_13, t_now_10, t_tried_1, t_kept_13)
set_option maxHeartbeats 4000000 in
set_option maxRecDepth 100000 in
theorem c_X8_file (l : Launch) (D : va_G) (y : Nat → ClassId) (fl : Nat) (sz : Nat) (a_t : Nat) (a_t_now : Nat) (a_t_tried : Nat) (a_t_kept : Nat) (a_t_saved : Nat) (a_t_line : Nat) (a_t_text : Nat) (a_t_told : Nat) (a_t_way : Nat) (t_undos : Int32) (t_isSaved : Int32) (t_lined : Int32) (t_length : Int32) (t_at : Int32) (t_order : Int32) (t_fault : Int32) (t_reason : Int32) (t_detail : Int32) (t_index : Int32) (t_answer : Int32) (t_thrown : Int32) (t_went : Int32) (t_fell : Int32) (t_now : Nat → Int32) (t_tried : Nat → Int32) (t_kept : Nat → Int32) (p1 : Int32) (p2 : Int32) (r : Int32) (t_undos' : Int32) (t_reason' : Int32) (t_detail' : Int32) (t_index' : Int32) (t_answer' : Int32) (t_thrown' : Int32) (t_now' : Nat → Int32) (t_tried' : Nat → Int32) (t_kept' : Nat → Int32) (hF : F_X8_file fl t_undos t_reason t_detail t_index t_answer t_thrown t_now t_tried t_kept p1 p2 = some (r, t_undos', t_reason', t_detail', t_index', t_answer', t_thrown', t_now', t_tried', t_kept')) : Met l yX8_file wsX8_file (rmq 4 93) (wrP D y [(a_t, .inr (12, [.ref a_t_now, .ref a_t_tried, .ref a_t_kept, .int t_undos, .ref a_t_saved, .int t_isSaved, .ref a_t_line, .int t_lined, .ref a_t_text, .int t_length, .int t_at, .int t_order, .ref a_t_told, .int t_fault, .int t_reason, .int t_detail, .int t_index, .int t_answer, .int t_thrown, .ref a_t_way, .int t_went, .int t_fell])), (a_t_now, .inl (y 0, 77, .inl t_now)), (a_t_tried, .inl (y 0, 77, .inl t_tried)), (a_t_kept, .inl (y 0, 616, .inl t_kept))] sz [.ref a_t, .int p1, .int p2]) (wQi D y r [(a_t, .inr (12, [.ref a_t_now, .ref a_t_tried, .ref a_t_kept, .int t_undos', .ref a_t_saved, .int t_isSaved, .ref a_t_line, .int t_lined, .ref a_t_text, .int t_length, .int t_at, .int t_order, .ref a_t_told, .int t_fault, .int t_reason', .int t_detail', .int t_index', .int t_answer', .int t_thrown', .ref a_t_way, .int t_went, .int t_fell])), (a_t_now, .inl (y 0, 77, .inl t_now')), (a_t_tried, .inl (y 0, 77, .inl t_tried')), (a_t_kept, .inl (y 0, 616, .inl t_kept'))] [(a_t, .inr (12, [.ref a_t_now, .ref a_t_tried, .ref a_t_kept, .int t_undos, .ref a_t_saved, .int t_isSaved, .ref a_t_line, .int t_lined, .ref a_t_text, .int t_length, .int t_at, .int t_order, .ref a_t_told, .int t_fault, .int t_reason, .int t_detail, .int t_index, .int t_answer, .int t_thrown, .ref a_t_way, .int t_went, .int t_fell])), (a_t_now, .inl (y 0, 77, .inl t_now)), (a_t_tried, .inl (y 0, 77, .inl t_tried)), (a_t_kept, .inl (y 0, 616, .inl t_kept))] sz) 0 0 (va_A [(a_t, .inr (12, [.ref a_t_now, .ref a_t_tried, .ref a_t_kept, .int t_undos, .ref a_t_saved, .int t_isSaved, .ref a_t_line, .int t_lined, .ref a_t_text, .int t_length, .int t_at, .int t_order, .ref a_t_told, .int t_fault, .int t_reason, .int t_detail, .int t_index, .int t_answer, .int t_thrown, .ref a_t_way, .int t_went, .int t_fell])), (a_t_now, .inl (y 0, 77, .inl t_now)), (a_t_tried, .inl (y 0, 77, .inl t_tried)), (a_t_kept, .inl (y 0, 616, .inl t_kept))] sz) := by
  refine Met.ofW (cc := cX8_file) (maxL := 3) (ret := (some .int)) (by decide) rfl ?_
  intro p e s m args below meth c s₁ B hml hv
  obtain ⟨hav, hsz, hP, hK, hD0⟩ := hv
  have hx := B.exec
  have hb := B.bytes
  have hr := B.returns
  have hts := atoms_spec (ws := wsX8_file) B.pre
  have hown : s.vm.findClass RX8 = some m.cls := findClass_of_methodNamed B.named
  have hlocks := B.notSynchronized
  subst hsz
  have hD := hD0.self (sz := s.heap.size)
  obtain ⟨A, hAe⟩ : ∃ A : Nat → Prop, va_A [(a_t, .inr (12, [.ref a_t_now, .ref a_t_tried, .ref a_t_kept, .int t_undos, .ref a_t_saved, .int t_isSaved, .ref a_t_line, .int t_lined, .ref a_t_text, .int t_length, .int t_at, .int t_order, .ref a_t_told, .int t_fault, .int t_reason, .int t_detail, .int t_index, .int t_answer, .int t_thrown, .ref a_t_way, .int t_went, .int t_fell])), (a_t_now, .inl (y 0, 77, .inl t_now)), (a_t_tried, .inl (y 0, 77, .inl t_tried)), (a_t_kept, .inl (y 0, 616, .inl t_kept))] s.heap.size = A := ⟨_, rfl⟩
  rw [hAe] at hD
  have hA : ∀ q, s.heap.size ≤ q → A q := fun q h => by rw [← hAe]; exact Or.inr h
  have hS : va_S A s.heap s.heap [] := va_S.rf
  refine W_q (R1 := (rmq 4 93)) rfl (fun Q0 hQ0 => ?_)
  unfold F_X8_file at hF
  refine W_entry hav (Nat.le_of_ble_eq_true rfl) (fun ls hl => ?_)
  have hl : lv_has ls 3 [(0, .ref a_t), (1, .int p1), (2, .int p2)] := hl
  refine lv_aload_n hx hb dX8_file_0 rfl (lv_at hl 0 rfl) ?_
  obtain ⟨t_thrown_1, t_tried_1, hq_1, hF⟩ := bn2_i hF
  refine cm_Vv (As := []) (rest := []) (wr := [(a_t_kept, .inl (y 0, 616, .inl t_kept))]) ⟨hx, hb, hml, hown, hts⟩ (c_X8_tries l D y fl s.heap.size a_t a_t_now a_t_tried a_t_kept a_t_saved a_t_line a_t_text a_t_told a_t_way t_undos t_isSaved t_lined t_length t_at t_order t_fault t_reason t_detail t_index t_answer t_thrown t_went t_fell t_now t_tried t_thrown_1 t_tried_1 hq_1) (cwV 0 hts gX8_file_X8_tries rfl rfl rfl (by decide +kernel) ⟨Nat.le_of_ble_eq_true rfl, Nat.le_of_ble_eq_true rfl⟩) hK hP hD hS hA [0, 1, 2] [3] rfl rfl rfl rfl (by decide) rfl rfl rfl hl.1 rfl (Nat.le_of_ble_eq_true rfl) dX8_file_1 ⟨Nat.le_of_ble_eq_true rfl, Nat.le_of_ble_eq_true rfl⟩ (fun H locs hP hD hS => ?_)
  have hP : va_P D vwCl [(a_t_kept, .inl (y 0, 616, .inl t_kept)), (a_t, .inr (12, [.ref a_t_now, .ref a_t_tried, .ref a_t_kept, .int t_undos, .ref a_t_saved, .int t_isSaved, .ref a_t_line, .int t_lined, .ref a_t_text, .int t_length, .int t_at, .int t_order, .ref a_t_told, .int t_fault, .int t_reason, .int t_detail, .int t_index, .int t_answer, .int t_thrown_1, .ref a_t_way, .int t_went, .int t_fell])), (a_t_now, .inl (y 0, 77, .inl t_now)), (a_t_tried, .inl (y 0, 77, .inl t_tried_1))] H := hP
  have hD : va_D A [(a_t_kept, .inl (y 0, 616, .inl t_kept)), (a_t, .inr (12, [.ref a_t_now, .ref a_t_tried, .ref a_t_kept, .int t_undos, .ref a_t_saved, .int t_isSaved, .ref a_t_line, .int t_lined, .ref a_t_text, .int t_length, .int t_at, .int t_order, .ref a_t_told, .int t_fault, .int t_reason, .int t_detail, .int t_index, .int t_answer, .int t_thrown_1, .ref a_t_way, .int t_went, .int t_fell])), (a_t_now, .inl (y 0, 77, .inl t_now)), (a_t_tried, .inl (y 0, 77, .inl t_tried_1))] := hD
  refine lv_aload_n hx hb dX8_file_4 rfl (lv_at hl 0 rfl) ?_
  refine lv_aload_n hx hb dX8_file_5 rfl (lv_at hl 0 rfl) ?_
  refine lv_iload_n hx hb dX8_file_6 rfl (lv_at hl 1 rfl) ?_
  refine lv_iload_n hx hb dX8_file_7 rfl (lv_at hl 2 rfl) ?_
  refine lv_iconst (v := 0) hx hb dX8_file_8 (by decide) ?_
  refine lv_iconst (v := 0) hx hb dX8_file_9 (by decide) ?_
  obtain ⟨r_10, t_reason_10, t_detail_10, t_index_10, t_answer_10, t_now_10, hq_10, hF⟩ := bn6_i hF
  refine cm_Vi (As := [.int p1, .int p2, .int (0 : Int32), .int (0 : Int32)]) (rest := [.ref a_t]) (wr := [(a_t_kept, .inl (y 0, 616, .inl t_kept)), (a_t_tried, .inl (y 0, 77, .inl t_tried_1))]) ⟨hx, hb, hml, hown, hts⟩ (c_X8_files l D y fl H.size a_t a_t_now a_t_tried a_t_kept a_t_saved a_t_line a_t_text a_t_told a_t_way t_undos t_isSaved t_lined t_length t_at t_order t_fault t_reason t_detail t_index t_answer t_thrown_1 t_went t_fell t_now p1 p2 (0 : Int32) (0 : Int32) r_10 t_reason_10 t_detail_10 t_index_10 t_answer_10 t_now_10 hq_10) (cwV 4 hts gX8_file_X8_files rfl rfl rfl (by decide +kernel) ⟨Nat.le_of_ble_eq_true rfl, Nat.le_of_ble_eq_true rfl⟩) hK hP hD hS hA [1, 2] [0, 3] rfl rfl rfl rfl (by decide) rfl rfl rfl hl.1 rfl (Nat.le_of_ble_eq_true rfl) dX8_file_10 ⟨Nat.le_of_ble_eq_true rfl, Nat.le_of_ble_eq_true rfl⟩ (fun H locs hP hD hS => ?_)
  have hP : va_P D vwCl [(a_t_kept, .inl (y 0, 616, .inl t_kept)), (a_t_tried, .inl (y 0, 77, .inl t_tried_1)), (a_t, .inr (12, [.ref a_t_now, .ref a_t_tried, .ref a_t_kept, .int t_undos, .ref a_t_saved, .int t_isSaved, .ref a_t_line, .int t_lined, .ref a_t_text, .int t_length, .int t_at, .int t_order, .ref a_t_told, .int t_fault, .int t_reason_10, .int t_detail_10, .int t_index_10, .int t_answer_10, .int t_thrown_1, .ref a_t_way, .int t_went, .int t_fell])), (a_t_now, .inl (y 0, 77, .inl t_now_10))] H := hP
  have hD : va_D A [(a_t_kept, .inl (y 0, 616, .inl t_kept)), (a_t_tried, .inl (y 0, 77, .inl t_tried_1)), (a_t, .inr (12, [.ref a_t_now, .ref a_t_tried, .ref a_t_kept, .int t_undos, .ref a_t_saved, .int t_isSaved, .ref a_t_line, .int t_lined, .ref a_t_text, .int t_length, .int t_at, .int t_order, .ref a_t_told, .int t_fault, .int t_reason_10, .int t_detail_10, .int t_index_10, .int t_answer_10, .int t_thrown_1, .ref a_t_way, .int t_went, .int t_fell])), (a_t_now, .inl (y 0, 77, .inl t_now_10))] := hD
  obtain ⟨r_13, t_undos_13, t_thrown_13, t_kept_13, hq_13, hF⟩ := bn4_i hF
  refine cm_Vi (As := [.int r_10]) (rest := []) (wr := [(a_t_now, .inl (y 0, 77, .inl t_now_10))]) ⟨hx, hb, hml, hown, hts⟩ (c_X8_ends l D y fl H.size a_t a_t_now a_t_tried a_t_kept a_t_saved a_t_line a_t_text a_t_told a_t_way t_undos t_isSaved t_lined t_length t_at t_order t_fault t_reason_10 t_detail_10 t_index_10 t_answer_10 t_thrown_1 t_went t_fell t_tried_1 t_kept r_10 r_13 t_undos_13 t_thrown_13 t_kept_13 hq_13) (cwV 1 hts gX8_file_X8_ends rfl rfl rfl (by decide +kernel) ⟨Nat.le_of_ble_eq_true rfl, Nat.le_of_ble_eq_true rfl⟩) hK hP hD hS hA [2, 1, 0] [3] rfl rfl rfl rfl (by decide) rfl rfl rfl hl.1 rfl (Nat.le_of_ble_eq_true rfl) dX8_file_13 ⟨Nat.le_of_ble_eq_true rfl, Nat.le_of_ble_eq_true rfl⟩ (fun H locs hP hD hS => ?_)
  have hP : va_P D vwCl [(a_t_now, .inl (y 0, 77, .inl t_now_10)), (a_t, .inr (12, [.ref a_t_now, .ref a_t_tried, .ref a_t_kept, .int t_undos_13, .ref a_t_saved, .int t_isSaved, .ref a_t_line, .int t_lined, .ref a_t_text, .int t_length, .int t_at, .int t_order, .ref a_t_told, .int t_fault, .int t_reason_10, .int t_detail_10, .int t_index_10, .int t_answer_10, .int t_thrown_13, .ref a_t_way, .int t_went, .int t_fell])), (a_t_tried, .inl (y 0, 77, .inl t_tried_1)), (a_t_kept, .inl (y 0, 616, .inl t_kept_13))] H := hP
  have hD : va_D A [(a_t_now, .inl (y 0, 77, .inl t_now_10)), (a_t, .inr (12, [.ref a_t_now, .ref a_t_tried, .ref a_t_kept, .int t_undos_13, .ref a_t_saved, .int t_isSaved, .ref a_t_line, .int t_lined, .ref a_t_text, .int t_length, .int t_at, .int t_order, .ref a_t_told, .int t_fault, .int t_reason_10, .int t_detail_10, .int t_index_10, .int t_answer_10, .int t_thrown_13, .ref a_t_way, .int t_went, .int t_fell])), (a_t_tried, .inl (y 0, 77, .inl t_tried_1)), (a_t_kept, .inl (y 0, 616, .inl t_kept_13))] := hD
  obtain ⟨e0_16, e1_16, e2_16, e3_16, e4_16, e5_16, e6_16, e7_16, e8_16, e9_16⟩ := inj10 hF
  rw [← e0_16, ← e1_16, ← e2_16, ← e3_16, ← e4_16, ← e5_16, ← e6_16, ← e7_16, ← e8_16, ← e9_16] at hQ0
  rw [hQ0]
  exact ret_i hx hb hr hlocks hAe hK hP hD hS [1, 0, 2, 3] rfl rfl dX8_file_16
def F_X8_fileTall (fl : Nat) (t_undos : Int32) (t_reason : Int32) (t_detail : Int32) (t_index : Int32) (t_answer : Int32) (t_thrown : Int32) (t_now : Nat → Int32) (t_tried : Nat → Int32) (t_kept : Nat → Int32) (p1 : Int32) (p2 : Int32) (p3 : Int32) : Option (Int32 × Int32 × Int32 × Int32 × Int32 × Int32 × Int32 × (Nat → Int32) × (Nat → Int32) × (Nat → Int32)) := bn2 (F_X8_tries fl t_thrown t_now t_tried) fun t_thrown_1 t_tried_1 => bn6 (F_X8_files fl t_reason t_detail t_index t_answer t_now p1 p2 p3 (1 : Int32)) fun r_10 t_reason_10 t_detail_10 t_index_10 t_answer_10 t_now_10 => bn4 (F_X8_ends fl t_undos t_answer_10 t_thrown_1 t_tried_1 t_kept r_10) fun r_13 t_undos_13 t_thrown_13 t_kept_13 => some (r_13, t_undos_13, t_reason_10, t_detail_10, t_index_10, t_answer_10, t_thrown_13, t_now_10, t_tried_1, t_kept_13)
set_option maxHeartbeats 4000000 in
set_option maxRecDepth 100000 in
theorem c_X8_fileTall (l : Launch) (D : va_G) (y : Nat → ClassId) (fl : Nat) (sz : Nat) (a_t : Nat) (a_t_now : Nat) (a_t_tried : Nat) (a_t_kept : Nat) (a_t_saved : Nat) (a_t_line : Nat) (a_t_text : Nat) (a_t_told : Nat) (a_t_way : Nat) (t_undos : Int32) (t_isSaved : Int32) (t_lined : Int32) (t_length : Int32) (t_at : Int32) (t_order : Int32) (t_fault : Int32) (t_reason : Int32) (t_detail : Int32) (t_index : Int32) (t_answer : Int32) (t_thrown : Int32) (t_went : Int32) (t_fell : Int32) (t_now : Nat → Int32) (t_tried : Nat → Int32) (t_kept : Nat → Int32) (p1 : Int32) (p2 : Int32) (p3 : Int32) (r : Int32) (t_undos' : Int32) (t_reason' : Int32) (t_detail' : Int32) (t_index' : Int32) (t_answer' : Int32) (t_thrown' : Int32) (t_now' : Nat → Int32) (t_tried' : Nat → Int32) (t_kept' : Nat → Int32) (hF : F_X8_fileTall fl t_undos t_reason t_detail t_index t_answer t_thrown t_now t_tried t_kept p1 p2 p3 = some (r, t_undos', t_reason', t_detail', t_index', t_answer', t_thrown', t_now', t_tried', t_kept')) : Met l yX8_fileTall wsX8_fileTall (rmq 4 93) (wrP D y [(a_t, .inr (12, [.ref a_t_now, .ref a_t_tried, .ref a_t_kept, .int t_undos, .ref a_t_saved, .int t_isSaved, .ref a_t_line, .int t_lined, .ref a_t_text, .int t_length, .int t_at, .int t_order, .ref a_t_told, .int t_fault, .int t_reason, .int t_detail, .int t_index, .int t_answer, .int t_thrown, .ref a_t_way, .int t_went, .int t_fell])), (a_t_now, .inl (y 0, 77, .inl t_now)), (a_t_tried, .inl (y 0, 77, .inl t_tried)), (a_t_kept, .inl (y 0, 616, .inl t_kept))] sz [.ref a_t, .int p1, .int p2, .int p3]) (wQi D y r [(a_t, .inr (12, [.ref a_t_now, .ref a_t_tried, .ref a_t_kept, .int t_undos', .ref a_t_saved, .int t_isSaved, .ref a_t_line, .int t_lined, .ref a_t_text, .int t_length, .int t_at, .int t_order, .ref a_t_told, .int t_fault, .int t_reason', .int t_detail', .int t_index', .int t_answer', .int t_thrown', .ref a_t_way, .int t_went, .int t_fell])), (a_t_now, .inl (y 0, 77, .inl t_now')), (a_t_tried, .inl (y 0, 77, .inl t_tried')), (a_t_kept, .inl (y 0, 616, .inl t_kept'))] [(a_t, .inr (12, [.ref a_t_now, .ref a_t_tried, .ref a_t_kept, .int t_undos, .ref a_t_saved, .int t_isSaved, .ref a_t_line, .int t_lined, .ref a_t_text, .int t_length, .int t_at, .int t_order, .ref a_t_told, .int t_fault, .int t_reason, .int t_detail, .int t_index, .int t_answer, .int t_thrown, .ref a_t_way, .int t_went, .int t_fell])), (a_t_now, .inl (y 0, 77, .inl t_now)), (a_t_tried, .inl (y 0, 77, .inl t_tried)), (a_t_kept, .inl (y 0, 616, .inl t_kept))] sz) 0 0 (va_A [(a_t, .inr (12, [.ref a_t_now, .ref a_t_tried, .ref a_t_kept, .int t_undos, .ref a_t_saved, .int t_isSaved, .ref a_t_line, .int t_lined, .ref a_t_text, .int t_length, .int t_at, .int t_order, .ref a_t_told, .int t_fault, .int t_reason, .int t_detail, .int t_index, .int t_answer, .int t_thrown, .ref a_t_way, .int t_went, .int t_fell])), (a_t_now, .inl (y 0, 77, .inl t_now)), (a_t_tried, .inl (y 0, 77, .inl t_tried)), (a_t_kept, .inl (y 0, 616, .inl t_kept))] sz) := by
  refine Met.ofW (cc := cX8_fileTall) (maxL := 4) (ret := (some .int)) (by decide) rfl ?_
  intro p e s m args below meth c s₁ B hml hv
  obtain ⟨hav, hsz, hP, hK, hD0⟩ := hv
  have hx := B.exec
  have hb := B.bytes
  have hr := B.returns
  have hts := atoms_spec (ws := wsX8_fileTall) B.pre
  have hown : s.vm.findClass RX8 = some m.cls := findClass_of_methodNamed B.named
  have hlocks := B.notSynchronized
  subst hsz
  have hD := hD0.self (sz := s.heap.size)
  obtain ⟨A, hAe⟩ : ∃ A : Nat → Prop, va_A [(a_t, .inr (12, [.ref a_t_now, .ref a_t_tried, .ref a_t_kept, .int t_undos, .ref a_t_saved, .int t_isSaved, .ref a_t_line, .int t_lined, .ref a_t_text, .int t_length, .int t_at, .int t_order, .ref a_t_told, .int t_fault, .int t_reason, .int t_detail, .int t_index, .int t_answer, .int t_thrown, .ref a_t_way, .int t_went, .int t_fell])), (a_t_now, .inl (y 0, 77, .inl t_now)), (a_t_tried, .inl (y 0, 77, .inl t_tried)), (a_t_kept, .inl (y 0, 616, .inl t_kept))] s.heap.size = A := ⟨_, rfl⟩
  rw [hAe] at hD
  have hA : ∀ q, s.heap.size ≤ q → A q := fun q h => by rw [← hAe]; exact Or.inr h
  have hS : va_S A s.heap s.heap [] := va_S.rf
  refine W_q (R1 := (rmq 4 93)) rfl (fun Q0 hQ0 => ?_)
  unfold F_X8_fileTall at hF
  refine W_entry hav (Nat.le_of_ble_eq_true rfl) (fun ls hl => ?_)
  have hl : lv_has ls 4 [(0, .ref a_t), (1, .int p1), (2, .int p2), (3, .int p3)] := hl
  refine lv_aload_n hx hb dX8_fileTall_0 rfl (lv_at hl 0 rfl) ?_
  obtain ⟨t_thrown_1, t_tried_1, hq_1, hF⟩ := bn2_i hF
  refine cm_Vv (As := []) (rest := []) (wr := [(a_t_kept, .inl (y 0, 616, .inl t_kept))]) ⟨hx, hb, hml, hown, hts⟩ (c_X8_tries l D y fl s.heap.size a_t a_t_now a_t_tried a_t_kept a_t_saved a_t_line a_t_text a_t_told a_t_way t_undos t_isSaved t_lined t_length t_at t_order t_fault t_reason t_detail t_index t_answer t_thrown t_went t_fell t_now t_tried t_thrown_1 t_tried_1 hq_1) (cwV 0 hts gX8_fileTall_X8_tries rfl rfl rfl (by decide +kernel) ⟨Nat.le_of_ble_eq_true rfl, Nat.le_of_ble_eq_true rfl⟩) hK hP hD hS hA [0, 1, 2] [3] rfl rfl rfl rfl (by decide) rfl rfl rfl hl.1 rfl (Nat.le_of_ble_eq_true rfl) dX8_fileTall_1 ⟨Nat.le_of_ble_eq_true rfl, Nat.le_of_ble_eq_true rfl⟩ (fun H locs hP hD hS => ?_)
  have hP : va_P D vwCl [(a_t_kept, .inl (y 0, 616, .inl t_kept)), (a_t, .inr (12, [.ref a_t_now, .ref a_t_tried, .ref a_t_kept, .int t_undos, .ref a_t_saved, .int t_isSaved, .ref a_t_line, .int t_lined, .ref a_t_text, .int t_length, .int t_at, .int t_order, .ref a_t_told, .int t_fault, .int t_reason, .int t_detail, .int t_index, .int t_answer, .int t_thrown_1, .ref a_t_way, .int t_went, .int t_fell])), (a_t_now, .inl (y 0, 77, .inl t_now)), (a_t_tried, .inl (y 0, 77, .inl t_tried_1))] H := hP
  have hD : va_D A [(a_t_kept, .inl (y 0, 616, .inl t_kept)), (a_t, .inr (12, [.ref a_t_now, .ref a_t_tried, .ref a_t_kept, .int t_undos, .ref a_t_saved, .int t_isSaved, .ref a_t_line, .int t_lined, .ref a_t_text, .int t_length, .int t_at, .int t_order, .ref a_t_told, .int t_fault, .int t_reason, .int t_detail, .int t_index, .int t_answer, .int t_thrown_1, .ref a_t_way, .int t_went, .int t_fell])), (a_t_now, .inl (y 0, 77, .inl t_now)), (a_t_tried, .inl (y 0, 77, .inl t_tried_1))] := hD
  refine lv_aload_n hx hb dX8_fileTall_4 rfl (lv_at hl 0 rfl) ?_
  refine lv_aload_n hx hb dX8_fileTall_5 rfl (lv_at hl 0 rfl) ?_
  refine lv_iload_n hx hb dX8_fileTall_6 rfl (lv_at hl 1 rfl) ?_
  refine lv_iload_n hx hb dX8_fileTall_7 rfl (lv_at hl 2 rfl) ?_
  refine lv_iload_n hx hb dX8_fileTall_8 rfl (lv_at hl 3 rfl) ?_
  refine lv_iconst (v := 1) hx hb dX8_fileTall_9 (by decide) ?_
  obtain ⟨r_10, t_reason_10, t_detail_10, t_index_10, t_answer_10, t_now_10, hq_10, hF⟩ := bn6_i hF
  refine cm_Vi (As := [.int p1, .int p2, .int p3, .int (1 : Int32)]) (rest := [.ref a_t]) (wr := [(a_t_kept, .inl (y 0, 616, .inl t_kept)), (a_t_tried, .inl (y 0, 77, .inl t_tried_1))]) ⟨hx, hb, hml, hown, hts⟩ (c_X8_files l D y fl H.size a_t a_t_now a_t_tried a_t_kept a_t_saved a_t_line a_t_text a_t_told a_t_way t_undos t_isSaved t_lined t_length t_at t_order t_fault t_reason t_detail t_index t_answer t_thrown_1 t_went t_fell t_now p1 p2 p3 (1 : Int32) r_10 t_reason_10 t_detail_10 t_index_10 t_answer_10 t_now_10 hq_10) (cwV 4 hts gX8_fileTall_X8_files rfl rfl rfl (by decide +kernel) ⟨Nat.le_of_ble_eq_true rfl, Nat.le_of_ble_eq_true rfl⟩) hK hP hD hS hA [1, 2] [0, 3] rfl rfl rfl rfl (by decide) rfl rfl rfl hl.1 rfl (Nat.le_of_ble_eq_true rfl) dX8_fileTall_10 ⟨Nat.le_of_ble_eq_true rfl, Nat.le_of_ble_eq_true rfl⟩ (fun H locs hP hD hS => ?_)
  have hP : va_P D vwCl [(a_t_kept, .inl (y 0, 616, .inl t_kept)), (a_t_tried, .inl (y 0, 77, .inl t_tried_1)), (a_t, .inr (12, [.ref a_t_now, .ref a_t_tried, .ref a_t_kept, .int t_undos, .ref a_t_saved, .int t_isSaved, .ref a_t_line, .int t_lined, .ref a_t_text, .int t_length, .int t_at, .int t_order, .ref a_t_told, .int t_fault, .int t_reason_10, .int t_detail_10, .int t_index_10, .int t_answer_10, .int t_thrown_1, .ref a_t_way, .int t_went, .int t_fell])), (a_t_now, .inl (y 0, 77, .inl t_now_10))] H := hP
  have hD : va_D A [(a_t_kept, .inl (y 0, 616, .inl t_kept)), (a_t_tried, .inl (y 0, 77, .inl t_tried_1)), (a_t, .inr (12, [.ref a_t_now, .ref a_t_tried, .ref a_t_kept, .int t_undos, .ref a_t_saved, .int t_isSaved, .ref a_t_line, .int t_lined, .ref a_t_text, .int t_length, .int t_at, .int t_order, .ref a_t_told, .int t_fault, .int t_reason_10, .int t_detail_10, .int t_index_10, .int t_answer_10, .int t_thrown_1, .ref a_t_way, .int t_went, .int t_fell])), (a_t_now, .inl (y 0, 77, .inl t_now_10))] := hD
  obtain ⟨r_13, t_undos_13, t_thrown_13, t_kept_13, hq_13, hF⟩ := bn4_i hF
  refine cm_Vi (As := [.int r_10]) (rest := []) (wr := [(a_t_now, .inl (y 0, 77, .inl t_now_10))]) ⟨hx, hb, hml, hown, hts⟩ (c_X8_ends l D y fl H.size a_t a_t_now a_t_tried a_t_kept a_t_saved a_t_line a_t_text a_t_told a_t_way t_undos t_isSaved t_lined t_length t_at t_order t_fault t_reason_10 t_detail_10 t_index_10 t_answer_10 t_thrown_1 t_went t_fell t_tried_1 t_kept r_10 r_13 t_undos_13 t_thrown_13 t_kept_13 hq_13) (cwV 1 hts gX8_fileTall_X8_ends rfl rfl rfl (by decide +kernel) ⟨Nat.le_of_ble_eq_true rfl, Nat.le_of_ble_eq_true rfl⟩) hK hP hD hS hA [2, 1, 0] [3] rfl rfl rfl rfl (by decide) rfl rfl rfl hl.1 rfl (Nat.le_of_ble_eq_true rfl) dX8_fileTall_13 ⟨Nat.le_of_ble_eq_true rfl, Nat.le_of_ble_eq_true rfl⟩ (fun H locs hP hD hS => ?_)
  have hP : va_P D vwCl [(a_t_now, .inl (y 0, 77, .inl t_now_10)), (a_t, .inr (12, [.ref a_t_now, .ref a_t_tried, .ref a_t_kept, .int t_undos_13, .ref a_t_saved, .int t_isSaved, .ref a_t_line, .int t_lined, .ref a_t_text, .int t_length, .int t_at, .int t_order, .ref a_t_told, .int t_fault, .int t_reason_10, .int t_detail_10, .int t_index_10, .int t_answer_10, .int t_thrown_13, .ref a_t_way, .int t_went, .int t_fell])), (a_t_tried, .inl (y 0, 77, .inl t_tried_1)), (a_t_kept, .inl (y 0, 616, .inl t_kept_13))] H := hP
  have hD : va_D A [(a_t_now, .inl (y 0, 77, .inl t_now_10)), (a_t, .inr (12, [.ref a_t_now, .ref a_t_tried, .ref a_t_kept, .int t_undos_13, .ref a_t_saved, .int t_isSaved, .ref a_t_line, .int t_lined, .ref a_t_text, .int t_length, .int t_at, .int t_order, .ref a_t_told, .int t_fault, .int t_reason_10, .int t_detail_10, .int t_index_10, .int t_answer_10, .int t_thrown_13, .ref a_t_way, .int t_went, .int t_fell])), (a_t_tried, .inl (y 0, 77, .inl t_tried_1)), (a_t_kept, .inl (y 0, 616, .inl t_kept_13))] := hD
  obtain ⟨e0_16, e1_16, e2_16, e3_16, e4_16, e5_16, e6_16, e7_16, e8_16, e9_16⟩ := inj10 hF
  rw [← e0_16, ← e1_16, ← e2_16, ← e3_16, ← e4_16, ← e5_16, ← e6_16, ← e7_16, ← e8_16, ← e9_16] at hQ0
  rw [hQ0]
  exact ret_i hx hb hr hlocks hAe hK hP hD hS [1, 0, 2, 3] rfl rfl dX8_fileTall_16
def F_X8_isThere (fl : Nat) (t_reason : Int32) (t_detail : Int32) (t_index : Int32) (t_now : Nat → Int32) (p1 : Int32) : Option (Int32 × Int32 × Int32 × Int32) := bn (F_X8_isKey fl p1) fun r_1 => if r_1 = 0 then (bn4 (F_X8_refuses fl t_reason t_detail t_index (1 : Int32) (0 : Int32)) fun r_10 t_reason_10 t_detail_10 t_index_10 => gd (okB r_10 = true) (some (r_10, t_reason_10, t_detail_10, t_index_10))) else (bn (F_X8_find fl t_now p1) fun r_16 => if 0 ≤ r_16 then (some ((1 : Int32), t_reason, t_detail, t_index)) else (bn4 (F_X8_refuses fl t_reason t_detail t_index (3 : Int32) p1) fun r_25 t_reason_25 t_detail_25 t_index_25 => if r_25 = 0 then (some ((0 : Int32), t_reason_25, t_detail_25, t_index_25)) else (some ((1 : Int32), t_reason_25, t_detail_25, t_index_25))))
set_option maxHeartbeats 4000000 in
set_option maxRecDepth 100000 in
theorem c_X8_isThere (l : Launch) (D : va_G) (y : Nat → ClassId) (fl : Nat) (sz : Nat) (a_t : Nat) (a_t_now : Nat) (a_t_tried : Nat) (a_t_kept : Nat) (a_t_saved : Nat) (a_t_line : Nat) (a_t_text : Nat) (a_t_told : Nat) (a_t_way : Nat) (t_undos : Int32) (t_isSaved : Int32) (t_lined : Int32) (t_length : Int32) (t_at : Int32) (t_order : Int32) (t_fault : Int32) (t_reason : Int32) (t_detail : Int32) (t_index : Int32) (t_answer : Int32) (t_thrown : Int32) (t_went : Int32) (t_fell : Int32) (t_now : Nat → Int32) (p1 : Int32) (r : Int32) (t_reason' : Int32) (t_detail' : Int32) (t_index' : Int32) (hF : F_X8_isThere fl t_reason t_detail t_index t_now p1 = some (r, t_reason', t_detail', t_index')) : Met l yX8_isThere wsX8_isThere (rmq 3 66) (wrP D y [(a_t, .inr (12, [.ref a_t_now, .ref a_t_tried, .ref a_t_kept, .int t_undos, .ref a_t_saved, .int t_isSaved, .ref a_t_line, .int t_lined, .ref a_t_text, .int t_length, .int t_at, .int t_order, .ref a_t_told, .int t_fault, .int t_reason, .int t_detail, .int t_index, .int t_answer, .int t_thrown, .ref a_t_way, .int t_went, .int t_fell])), (a_t_now, .inl (y 0, 77, .inl t_now))] sz [.ref a_t, .int p1]) (wQi D y r [(a_t, .inr (12, [.ref a_t_now, .ref a_t_tried, .ref a_t_kept, .int t_undos, .ref a_t_saved, .int t_isSaved, .ref a_t_line, .int t_lined, .ref a_t_text, .int t_length, .int t_at, .int t_order, .ref a_t_told, .int t_fault, .int t_reason', .int t_detail', .int t_index', .int t_answer, .int t_thrown, .ref a_t_way, .int t_went, .int t_fell])), (a_t_now, .inl (y 0, 77, .inl t_now))] [(a_t, .inr (12, [.ref a_t_now, .ref a_t_tried, .ref a_t_kept, .int t_undos, .ref a_t_saved, .int t_isSaved, .ref a_t_line, .int t_lined, .ref a_t_text, .int t_length, .int t_at, .int t_order, .ref a_t_told, .int t_fault, .int t_reason, .int t_detail, .int t_index, .int t_answer, .int t_thrown, .ref a_t_way, .int t_went, .int t_fell])), (a_t_now, .inl (y 0, 77, .inl t_now))] sz) 0 0 (va_A [(a_t, .inr (12, [.ref a_t_now, .ref a_t_tried, .ref a_t_kept, .int t_undos, .ref a_t_saved, .int t_isSaved, .ref a_t_line, .int t_lined, .ref a_t_text, .int t_length, .int t_at, .int t_order, .ref a_t_told, .int t_fault, .int t_reason, .int t_detail, .int t_index, .int t_answer, .int t_thrown, .ref a_t_way, .int t_went, .int t_fell])), (a_t_now, .inl (y 0, 77, .inl t_now))] sz) := by
  refine Met.ofW (cc := cX8_isThere) (maxL := 2) (ret := (some .boolean)) (by decide) rfl ?_
  intro p e s m args below meth c s₁ B hml hv
  obtain ⟨hav, hsz, hP, hK, hD0⟩ := hv
  have hx := B.exec
  have hb := B.bytes
  have hr := B.returns
  have hts := atoms_spec (ws := wsX8_isThere) B.pre
  have hown : s.vm.findClass RX8 = some m.cls := findClass_of_methodNamed B.named
  have hlocks := B.notSynchronized
  subst hsz
  have hD := hD0.self (sz := s.heap.size)
  obtain ⟨A, hAe⟩ : ∃ A : Nat → Prop, va_A [(a_t, .inr (12, [.ref a_t_now, .ref a_t_tried, .ref a_t_kept, .int t_undos, .ref a_t_saved, .int t_isSaved, .ref a_t_line, .int t_lined, .ref a_t_text, .int t_length, .int t_at, .int t_order, .ref a_t_told, .int t_fault, .int t_reason, .int t_detail, .int t_index, .int t_answer, .int t_thrown, .ref a_t_way, .int t_went, .int t_fell])), (a_t_now, .inl (y 0, 77, .inl t_now))] s.heap.size = A := ⟨_, rfl⟩
  rw [hAe] at hD
  have hA : ∀ q, s.heap.size ≤ q → A q := fun q h => by rw [← hAe]; exact Or.inr h
  have hS : va_S A s.heap s.heap [] := va_S.rf
  refine W_q (R1 := (rmq 3 66)) rfl (fun Q0 hQ0 => ?_)
  unfold F_X8_isThere at hF
  refine W_entry hav (Nat.le_of_ble_eq_true rfl) (fun ls hl => ?_)
  have hl : lv_has ls 2 [(0, .ref a_t), (1, .int p1)] := hl
  refine lv_iload_n hx hb dX8_isThere_0 rfl (lv_at hl 1 rfl) ?_
  obtain ⟨r_1, hq_1, hF⟩ := bn_i hF
  refine cr_S (As := [.int p1]) (rest := []) ⟨hx, hb, hml, hown, hts⟩ (c_X8_isKey l D y fl p1 r_1 hq_1) (va_cwS 1 hts gX8_isThere_X8_isKey rfl rfl rfl (by decide +kernel) ⟨Nat.le_of_ble_eq_true rfl, Nat.le_of_ble_eq_true rfl⟩) hK hP [] rfl rfl hl.1 rfl (Nat.le_of_ble_eq_true rfl) dX8_isThere_1 ⟨Nat.le_of_ble_eq_true rfl, Nat.le_of_ble_eq_true rfl⟩ ?_
  refine lv_if_ne (tgt := 14) hx hb dX8_isThere_4 (by decide) (fun c_4 => ?_) (fun c_4 => ?_)
  · have hF := iff_ hF c_4
    refine lv_aload_n hx hb dX8_isThere_14 rfl (lv_at hl 0 rfl) ?_
    refine lv_iload_n hx hb dX8_isThere_15 rfl (lv_at hl 1 rfl) ?_
    obtain ⟨r_16, hq_16, hF⟩ := bn_i hF
    refine cr_V (As := [.int p1]) (rest := []) ⟨hx, hb, hml, hown, hts⟩ (c_X8_find l D y fl a_t a_t_now a_t_tried a_t_kept a_t_saved a_t_line a_t_text a_t_told a_t_way t_undos t_isSaved t_lined t_length t_at t_order t_fault t_reason t_detail t_index t_answer t_thrown t_went t_fell t_now p1 r_16 hq_16) (cwV 1 hts gX8_isThere_X8_find rfl rfl rfl (by decide +kernel) ⟨Nat.le_of_ble_eq_true rfl, Nat.le_of_ble_eq_true rfl⟩) hK hP [0, 1] rfl rfl rfl rfl hl.1 rfl (Nat.le_of_ble_eq_true rfl) dX8_isThere_16 ⟨Nat.le_of_ble_eq_true rfl, Nat.le_of_ble_eq_true rfl⟩ ?_
    refine lv_if_ge (tgt := 31) hx hb dX8_isThere_19 (by decide) (fun c_19 => ?_) (fun c_19 => ?_)
    · have hF := ift hF c_19
      refine lv_iconst (v := 1) hx hb dX8_isThere_31 (by decide) ?_
      refine lv_goto (tgt := 36) hx hb dX8_isThere_32 (by decide) ?_
      obtain ⟨e0_36, e1_36, e2_36, e3_36⟩ := inj4 hF
      rw [← e0_36, ← e1_36, ← e2_36, ← e3_36] at hQ0
      rw [hQ0]
      exact ret_z hx hb hr (by decide +kernel) hlocks hAe hK hP hD hS [0, 1] rfl rfl dX8_isThere_36
    · have hF := iff_ hF c_19
      refine lv_aload_n hx hb dX8_isThere_22 rfl (lv_at hl 0 rfl) ?_
      refine lv_iconst (v := 3) hx hb dX8_isThere_23 (by decide) ?_
      refine lv_iload_n hx hb dX8_isThere_24 rfl (lv_at hl 1 rfl) ?_
      obtain ⟨r_25, t_reason_25, t_detail_25, t_index_25, hq_25, hF⟩ := bn4_i hF
      refine cm_Vi (As := [.int (3 : Int32), .int p1]) (rest := []) (wr := [(a_t_now, .inl (y 0, 77, .inl t_now))]) ⟨hx, hb, hml, hown, hts⟩ (c_X8_refuses l D y fl s.heap.size a_t a_t_now a_t_tried a_t_kept a_t_saved a_t_line a_t_text a_t_told a_t_way t_undos t_isSaved t_lined t_length t_at t_order t_fault t_reason t_detail t_index t_answer t_thrown t_went t_fell (3 : Int32) p1 r_25 t_reason_25 t_detail_25 t_index_25 hq_25) (cwV 2 hts gX8_isThere_X8_refuses rfl rfl rfl (by decide +kernel) ⟨Nat.le_of_ble_eq_true rfl, Nat.le_of_ble_eq_true rfl⟩) hK hP hD hS hA [0] [1] rfl rfl rfl rfl (by decide) rfl rfl rfl hl.1 rfl (Nat.le_of_ble_eq_true rfl) dX8_isThere_25 ⟨Nat.le_of_ble_eq_true rfl, Nat.le_of_ble_eq_true rfl⟩ (fun H locs hP hD hS => ?_)
      have hP : va_P D vwCl [(a_t_now, .inl (y 0, 77, .inl t_now)), (a_t, .inr (12, [.ref a_t_now, .ref a_t_tried, .ref a_t_kept, .int t_undos, .ref a_t_saved, .int t_isSaved, .ref a_t_line, .int t_lined, .ref a_t_text, .int t_length, .int t_at, .int t_order, .ref a_t_told, .int t_fault, .int t_reason_25, .int t_detail_25, .int t_index_25, .int t_answer, .int t_thrown, .ref a_t_way, .int t_went, .int t_fell]))] H := hP
      have hD : va_D A [(a_t_now, .inl (y 0, 77, .inl t_now)), (a_t, .inr (12, [.ref a_t_now, .ref a_t_tried, .ref a_t_kept, .int t_undos, .ref a_t_saved, .int t_isSaved, .ref a_t_line, .int t_lined, .ref a_t_text, .int t_length, .int t_at, .int t_order, .ref a_t_told, .int t_fault, .int t_reason_25, .int t_detail_25, .int t_index_25, .int t_answer, .int t_thrown, .ref a_t_way, .int t_went, .int t_fell]))] := hD
      refine lv_if_eq (tgt := 35) hx hb dX8_isThere_28 (by decide) (fun c_28 => ?_) (fun c_28 => ?_)
      · have hF := ift hF c_28
        refine lv_iconst (v := 0) hx hb dX8_isThere_35 (by decide) ?_
        obtain ⟨e0_36, e1_36, e2_36, e3_36⟩ := inj4 hF
        rw [← e0_36, ← e1_36, ← e2_36, ← e3_36] at hQ0
        rw [hQ0]
        exact ret_z hx hb hr (by decide +kernel) hlocks hAe hK hP hD hS [1, 0] rfl rfl dX8_isThere_36
      · have hF := iff_ hF c_28
        refine lv_iconst (v := 1) hx hb dX8_isThere_31 (by decide) ?_
        refine lv_goto (tgt := 36) hx hb dX8_isThere_32 (by decide) ?_
        obtain ⟨e0_36, e1_36, e2_36, e3_36⟩ := inj4 hF
        rw [← e0_36, ← e1_36, ← e2_36, ← e3_36] at hQ0
        rw [hQ0]
        exact ret_z hx hb hr (by decide +kernel) hlocks hAe hK hP hD hS [1, 0] rfl rfl dX8_isThere_36
  · have hF := ift hF c_4
    refine lv_aload_n hx hb dX8_isThere_7 rfl (lv_at hl 0 rfl) ?_
    refine lv_iconst (v := 1) hx hb dX8_isThere_8 (by decide) ?_
    refine lv_iconst (v := 0) hx hb dX8_isThere_9 (by decide) ?_
    obtain ⟨r_10, t_reason_10, t_detail_10, t_index_10, hq_10, hF⟩ := bn4_i hF
    refine cm_Vi (As := [.int (1 : Int32), .int (0 : Int32)]) (rest := []) (wr := [(a_t_now, .inl (y 0, 77, .inl t_now))]) ⟨hx, hb, hml, hown, hts⟩ (c_X8_refuses l D y fl s.heap.size a_t a_t_now a_t_tried a_t_kept a_t_saved a_t_line a_t_text a_t_told a_t_way t_undos t_isSaved t_lined t_length t_at t_order t_fault t_reason t_detail t_index t_answer t_thrown t_went t_fell (1 : Int32) (0 : Int32) r_10 t_reason_10 t_detail_10 t_index_10 hq_10) (cwV 2 hts gX8_isThere_X8_refuses rfl rfl rfl (by decide +kernel) ⟨Nat.le_of_ble_eq_true rfl, Nat.le_of_ble_eq_true rfl⟩) hK hP hD hS hA [0] [1] rfl rfl rfl rfl (by decide) rfl rfl rfl hl.1 rfl (Nat.le_of_ble_eq_true rfl) dX8_isThere_10 ⟨Nat.le_of_ble_eq_true rfl, Nat.le_of_ble_eq_true rfl⟩ (fun H locs hP hD hS => ?_)
    have hP : va_P D vwCl [(a_t_now, .inl (y 0, 77, .inl t_now)), (a_t, .inr (12, [.ref a_t_now, .ref a_t_tried, .ref a_t_kept, .int t_undos, .ref a_t_saved, .int t_isSaved, .ref a_t_line, .int t_lined, .ref a_t_text, .int t_length, .int t_at, .int t_order, .ref a_t_told, .int t_fault, .int t_reason_10, .int t_detail_10, .int t_index_10, .int t_answer, .int t_thrown, .ref a_t_way, .int t_went, .int t_fell]))] H := hP
    have hD : va_D A [(a_t_now, .inl (y 0, 77, .inl t_now)), (a_t, .inr (12, [.ref a_t_now, .ref a_t_tried, .ref a_t_kept, .int t_undos, .ref a_t_saved, .int t_isSaved, .ref a_t_line, .int t_lined, .ref a_t_text, .int t_length, .int t_at, .int t_order, .ref a_t_told, .int t_fault, .int t_reason_10, .int t_detail_10, .int t_index_10, .int t_answer, .int t_thrown, .ref a_t_way, .int t_went, .int t_fell]))] := hD
    obtain ⟨g_13, hF⟩ := gd_i hF
    obtain ⟨e0_13, e1_13, e2_13, e3_13⟩ := inj4 hF
    rw [← e0_13, ← e1_13, ← e2_13, ← e3_13] at hQ0
    rw [hQ0]
    exact ret_z hx hb hr (okB_n g_13).1 hlocks hAe hK hP hD hS [1, 0] rfl rfl dX8_isThere_13
def F_X8_drops_32 (fl : Nat) : Nat → Int32 → Int32 → Int32 → Int32 → (Nat → Int32) → Int32 → Int32 → Int32 → Option (Int32 × Int32 × Int32 × Int32 × Int32 × (Nat → Int32))
  | 0, _, _, _, _, _, _, _, _ => none
  | n + 1, t_reason_w, t_detail_w, t_index_w, t_answer_w, t_now_w, x1, x2, x3 => gi (0 : Int32) 77 (if ((5 : Int32) + ((3 : Int32) * (t_now_w (0 : Int32).toNatClampNeg))) ≤ x3 then (gi (0 : Int32) 77 (bn2 (F_X8_does fl t_answer_w (t_now_w (0 : Int32).toNatClampNeg)) fun r_73 t_answer_73 => gd (okB r_73 = true) (some (r_73, t_reason_w, t_detail_w, t_index_w, t_answer_73, t_now_w)))) else (gi (x3 + (3 : Int32)) 77 (gi x3 77 (F_X8_drops_32 fl n t_reason_w t_detail_w t_index_w t_answer_w (upd t_now_w x3.toNatClampNeg (t_now_w (x3 + (3 : Int32)).toNatClampNeg)) x1 x2 (x3 + (1 : Int32))))))
def F_X8_drops (fl : Nat) (t_reason : Int32) (t_detail : Int32) (t_index : Int32) (t_answer : Int32) (t_now : Nat → Int32) (p1 : Int32) : Option (Int32 × Int32 × Int32 × Int32 × Int32 × (Nat → Int32)) := bn4 (F_X8_isThere fl t_reason t_detail t_index t_now p1) fun r_2 t_reason_2 t_detail_2 t_index_2 => if r_2 = 0 then (some ((0 : Int32), t_reason_2, t_detail_2, t_index_2, t_answer, t_now)) else (bn (F_X8_find fl t_now p1) fun r_12 => gi (0 : Int32) 77 (gi (0 : Int32) 77 (F_X8_drops_32 fl fl t_reason_2 t_detail_2 t_index_2 t_answer (upd t_now (0 : Int32).toNatClampNeg ((t_now (0 : Int32).toNatClampNeg) - (1 : Int32))) p1 r_12 ((5 : Int32) + ((3 : Int32) * r_12)))))
theorem iX8_drops_X8 : ∀ w ∈ u_ws RX8 TX8 22, w ∈ wsX8_drops := fun w h => List.mem_cons_of_mem _ (List.mem_append_left _ (List.mem_append_right _ h))
set_option maxHeartbeats 4000000 in
set_option maxRecDepth 100000 in
theorem c_X8_drops (l : Launch) (D : va_G) (y : Nat → ClassId) (fl : Nat) (sz : Nat) (a_t : Nat) (a_t_now : Nat) (a_t_tried : Nat) (a_t_kept : Nat) (a_t_saved : Nat) (a_t_line : Nat) (a_t_text : Nat) (a_t_told : Nat) (a_t_way : Nat) (t_undos : Int32) (t_isSaved : Int32) (t_lined : Int32) (t_length : Int32) (t_at : Int32) (t_order : Int32) (t_fault : Int32) (t_reason : Int32) (t_detail : Int32) (t_index : Int32) (t_answer : Int32) (t_thrown : Int32) (t_went : Int32) (t_fell : Int32) (t_now : Nat → Int32) (p1 : Int32) (r : Int32) (t_reason' : Int32) (t_detail' : Int32) (t_index' : Int32) (t_answer' : Int32) (t_now' : Nat → Int32) (hF : F_X8_drops fl t_reason t_detail t_index t_answer t_now p1 = some (r, t_reason', t_detail', t_index', t_answer', t_now')) : Met l yX8_drops wsX8_drops (rmq 4 87) (wrP D y [(a_t, .inr (12, [.ref a_t_now, .ref a_t_tried, .ref a_t_kept, .int t_undos, .ref a_t_saved, .int t_isSaved, .ref a_t_line, .int t_lined, .ref a_t_text, .int t_length, .int t_at, .int t_order, .ref a_t_told, .int t_fault, .int t_reason, .int t_detail, .int t_index, .int t_answer, .int t_thrown, .ref a_t_way, .int t_went, .int t_fell])), (a_t_now, .inl (y 0, 77, .inl t_now))] sz [.ref a_t, .int p1]) (wQi D y r [(a_t, .inr (12, [.ref a_t_now, .ref a_t_tried, .ref a_t_kept, .int t_undos, .ref a_t_saved, .int t_isSaved, .ref a_t_line, .int t_lined, .ref a_t_text, .int t_length, .int t_at, .int t_order, .ref a_t_told, .int t_fault, .int t_reason', .int t_detail', .int t_index', .int t_answer', .int t_thrown, .ref a_t_way, .int t_went, .int t_fell])), (a_t_now, .inl (y 0, 77, .inl t_now'))] [(a_t, .inr (12, [.ref a_t_now, .ref a_t_tried, .ref a_t_kept, .int t_undos, .ref a_t_saved, .int t_isSaved, .ref a_t_line, .int t_lined, .ref a_t_text, .int t_length, .int t_at, .int t_order, .ref a_t_told, .int t_fault, .int t_reason, .int t_detail, .int t_index, .int t_answer, .int t_thrown, .ref a_t_way, .int t_went, .int t_fell])), (a_t_now, .inl (y 0, 77, .inl t_now))] sz) 0 0 (va_A [(a_t, .inr (12, [.ref a_t_now, .ref a_t_tried, .ref a_t_kept, .int t_undos, .ref a_t_saved, .int t_isSaved, .ref a_t_line, .int t_lined, .ref a_t_text, .int t_length, .int t_at, .int t_order, .ref a_t_told, .int t_fault, .int t_reason, .int t_detail, .int t_index, .int t_answer, .int t_thrown, .ref a_t_way, .int t_went, .int t_fell])), (a_t_now, .inl (y 0, 77, .inl t_now))] sz) := by
  refine Met.ofW (cc := cX8_drops) (maxL := 4) (ret := (some .boolean)) (by decide) rfl ?_
  intro p e s m args below meth c s₁ B hml hv
  obtain ⟨hav, hsz, hP, hK, hD0⟩ := hv
  have hx := B.exec
  have hb := B.bytes
  have hr := B.returns
  have hts := atoms_spec (ws := wsX8_drops) B.pre
  have hown : s.vm.findClass RX8 = some m.cls := findClass_of_methodNamed B.named
  have hlocks := B.notSynchronized
  subst hsz
  have hD := hD0.self (sz := s.heap.size)
  obtain ⟨A, hAe⟩ : ∃ A : Nat → Prop, va_A [(a_t, .inr (12, [.ref a_t_now, .ref a_t_tried, .ref a_t_kept, .int t_undos, .ref a_t_saved, .int t_isSaved, .ref a_t_line, .int t_lined, .ref a_t_text, .int t_length, .int t_at, .int t_order, .ref a_t_told, .int t_fault, .int t_reason, .int t_detail, .int t_index, .int t_answer, .int t_thrown, .ref a_t_way, .int t_went, .int t_fell])), (a_t_now, .inl (y 0, 77, .inl t_now))] s.heap.size = A := ⟨_, rfl⟩
  rw [hAe] at hD
  have hA : ∀ q, s.heap.size ≤ q → A q := fun q h => by rw [← hAe]; exact Or.inr h
  have hS : va_S A s.heap s.heap [] := va_S.rf
  refine W_q (R1 := (rmq 4 87)) rfl (fun Q0 hQ0 => ?_)
  unfold F_X8_drops at hF
  have k_32 : ∀ (n : Nat) (t_reason_w : Int32) (t_detail_w : Int32) (t_index_w : Int32) (t_answer_w : Int32) (t_now_w : Nat → Int32) (x1 : Int32) (x2 : Int32) (x3 : Int32), F_X8_drops_32 fl n t_reason_w t_detail_w t_index_w t_answer_w t_now_w x1 x2 x3 = some (r, t_reason', t_detail', t_index', t_answer', t_now') → ∀ (H : Heap) (locs : List Loc), va_P D vwCl [(a_t, .inr (12, [.ref a_t_now, .ref a_t_tried, .ref a_t_kept, .int t_undos, .ref a_t_saved, .int t_isSaved, .ref a_t_line, .int t_lined, .ref a_t_text, .int t_length, .int t_at, .int t_order, .ref a_t_told, .int t_fault, .int t_reason_w, .int t_detail_w, .int t_index_w, .int t_answer_w, .int t_thrown, .ref a_t_way, .int t_went, .int t_fell])), (a_t_now, .inl (y 0, 77, .inl t_now_w))] H → va_D A [(a_t, .inr (12, [.ref a_t_now, .ref a_t_tried, .ref a_t_kept, .int t_undos, .ref a_t_saved, .int t_isSaved, .ref a_t_line, .int t_lined, .ref a_t_text, .int t_length, .int t_at, .int t_order, .ref a_t_told, .int t_fault, .int t_reason_w, .int t_detail_w, .int t_index_w, .int t_answer_w, .int t_thrown, .ref a_t_way, .int t_went, .int t_fell])), (a_t_now, .inl (y 0, 77, .inl t_now_w))] → va_S A s.heap H locs → ∀ (ls : Array Slot), lv_has ls 4 [(0, .ref a_t), (1, .int x1), (2, .int x2), (3, .int x3)] → W p l e (rmq 4 87) s m args below meth c H locs 0 0 Q0 (F0 m 32 ls []) := by
    intro n
    induction n with
    | zero => intro t_reason_w t_detail_w t_index_w t_answer_w t_now_w x1 x2 x3 hF; rw [F_X8_drops_32] at hF; cases hF
    | succ n ih =>
      intro t_reason_w t_detail_w t_index_w t_answer_w t_now_w x1 x2 x3 hF H locs hP hD hS ls hl
      rw [F_X8_drops_32] at hF
      refine lv_iload_n hx hb dX8_drops_32 rfl (lv_at hl 3 rfl) ?_
      refine lv_iconst (v := 5) hx hb dX8_drops_33 (by decide) ?_
      refine lv_iconst (v := 3) hx hb dX8_drops_34 (by decide) ?_
      refine lv_aload_n hx hb dX8_drops_35 rfl (lv_at hl 0 rfl) ?_
      refine va_get (D := D) (ci := 12) (v := .ref a_t_now) (C := RX8) (T := TX8) (N := 22) hx hb hts iX8_drops_X8 hown hK hP 0 rfl rfl 0 (by decide) (hts (.fieldLink RX8 9 "SkipArchiveModel" "now" "[I") (List.mem_of_getElem? (i := 1) rfl)) (fun _ h9 => h9) rfl dX8_drops_36 ?_
      refine lv_iconst (v := 0) hx hb dX8_drops_39 (by decide) ?_
      obtain ⟨g_40, hF⟩ := gi_i hF
      refine va_iald hx hb hK hP 1 0 rfl rfl g_40 dX8_drops_40 ?_
      refine lv_imul hx hb dX8_drops_41 ?_
      refine lv_iadd hx hb dX8_drops_42 ?_
      refine lv_icmp_ge (tgt := 66) hx hb dX8_drops_43 (by decide) (fun c_43 => ?_) (fun c_43 => ?_)
      · have hF := ift hF c_43
        refine lv_aload_n hx hb dX8_drops_66 rfl (lv_at hl 0 rfl) ?_
        refine lv_aload_n hx hb dX8_drops_67 rfl (lv_at hl 0 rfl) ?_
        refine va_get (D := D) (ci := 12) (v := .ref a_t_now) (C := RX8) (T := TX8) (N := 22) hx hb hts iX8_drops_X8 hown hK hP 0 rfl rfl 0 (by decide) (hts (.fieldLink RX8 9 "SkipArchiveModel" "now" "[I") (List.mem_of_getElem? (i := 1) rfl)) (fun _ h9 => h9) rfl dX8_drops_68 ?_
        refine lv_iconst (v := 0) hx hb dX8_drops_71 (by decide) ?_
        obtain ⟨g_72, hF⟩ := gi_i hF
        refine va_iald hx hb hK hP 1 0 rfl rfl g_72 dX8_drops_72 ?_
        obtain ⟨r_73, t_answer_73, hq_73, hF⟩ := bn2_i hF
        refine cm_Vi (As := [.int (t_now_w (0 : Int32).toNatClampNeg)]) (rest := []) (wr := [(a_t_now, .inl (y 0, 77, .inl t_now_w))]) ⟨hx, hb, hml, hown, hts⟩ (c_X8_does l D y fl H.size a_t a_t_now a_t_tried a_t_kept a_t_saved a_t_line a_t_text a_t_told a_t_way t_undos t_isSaved t_lined t_length t_at t_order t_fault t_reason_w t_detail_w t_index_w t_answer_w t_thrown t_went t_fell (t_now_w (0 : Int32).toNatClampNeg) r_73 t_answer_73 hq_73) (cwV 1 hts gX8_drops_X8_does rfl rfl rfl (by decide +kernel) ⟨Nat.le_of_ble_eq_true rfl, Nat.le_of_ble_eq_true rfl⟩) hK hP hD hS hA [0] [1] rfl rfl rfl rfl (by decide) rfl rfl rfl hl.1 rfl (Nat.le_of_ble_eq_true rfl) dX8_drops_73 ⟨Nat.le_of_ble_eq_true rfl, Nat.le_of_ble_eq_true rfl⟩ (fun H locs hP hD hS => ?_)
        have hP : va_P D vwCl [(a_t_now, .inl (y 0, 77, .inl t_now_w)), (a_t, .inr (12, [.ref a_t_now, .ref a_t_tried, .ref a_t_kept, .int t_undos, .ref a_t_saved, .int t_isSaved, .ref a_t_line, .int t_lined, .ref a_t_text, .int t_length, .int t_at, .int t_order, .ref a_t_told, .int t_fault, .int t_reason_w, .int t_detail_w, .int t_index_w, .int t_answer_73, .int t_thrown, .ref a_t_way, .int t_went, .int t_fell]))] H := hP
        have hD : va_D A [(a_t_now, .inl (y 0, 77, .inl t_now_w)), (a_t, .inr (12, [.ref a_t_now, .ref a_t_tried, .ref a_t_kept, .int t_undos, .ref a_t_saved, .int t_isSaved, .ref a_t_line, .int t_lined, .ref a_t_text, .int t_length, .int t_at, .int t_order, .ref a_t_told, .int t_fault, .int t_reason_w, .int t_detail_w, .int t_index_w, .int t_answer_73, .int t_thrown, .ref a_t_way, .int t_went, .int t_fell]))] := hD
        obtain ⟨g_76, hF⟩ := gd_i hF
        obtain ⟨e0_76, e1_76, e2_76, e3_76, e4_76, e5_76⟩ := inj6 hF
        rw [← e0_76, ← e1_76, ← e2_76, ← e3_76, ← e4_76, ← e5_76] at hQ0
        rw [hQ0]
        exact ret_z hx hb hr (okB_n g_76).1 hlocks hAe hK hP hD hS [1, 0] rfl rfl dX8_drops_76
      · have hF := iff_ hF c_43
        refine lv_aload_n hx hb dX8_drops_46 rfl (lv_at hl 0 rfl) ?_
        refine va_get (D := D) (ci := 12) (v := .ref a_t_now) (C := RX8) (T := TX8) (N := 22) hx hb hts iX8_drops_X8 hown hK hP 0 rfl rfl 0 (by decide) (hts (.fieldLink RX8 9 "SkipArchiveModel" "now" "[I") (List.mem_of_getElem? (i := 1) rfl)) (fun _ h9 => h9) rfl dX8_drops_47 ?_
        refine lv_iload_n hx hb dX8_drops_50 rfl (lv_at hl 3 rfl) ?_
        refine lv_aload_n hx hb dX8_drops_51 rfl (lv_at hl 0 rfl) ?_
        refine va_get (D := D) (ci := 12) (v := .ref a_t_now) (C := RX8) (T := TX8) (N := 22) hx hb hts iX8_drops_X8 hown hK hP 0 rfl rfl 0 (by decide) (hts (.fieldLink RX8 9 "SkipArchiveModel" "now" "[I") (List.mem_of_getElem? (i := 1) rfl)) (fun _ h9 => h9) rfl dX8_drops_52 ?_
        refine lv_iload_n hx hb dX8_drops_55 rfl (lv_at hl 3 rfl) ?_
        refine lv_iconst (v := 3) hx hb dX8_drops_56 (by decide) ?_
        refine lv_iadd hx hb dX8_drops_57 ?_
        obtain ⟨g_58, hF⟩ := gi_i hF
        refine va_iald hx hb hK hP 1 0 rfl rfl g_58 dX8_drops_58 ?_
        obtain ⟨g_59, hF⟩ := gi_i hF
        refine va_iast hx hb hK hP hD hS 1 0 rfl rfl g_59 dX8_drops_59 (fun H locs hP hD hS => ?_)
        have hP : va_P D vwCl [(a_t, .inr (12, [.ref a_t_now, .ref a_t_tried, .ref a_t_kept, .int t_undos, .ref a_t_saved, .int t_isSaved, .ref a_t_line, .int t_lined, .ref a_t_text, .int t_length, .int t_at, .int t_order, .ref a_t_told, .int t_fault, .int t_reason_w, .int t_detail_w, .int t_index_w, .int t_answer_w, .int t_thrown, .ref a_t_way, .int t_went, .int t_fell])), (a_t_now, .inl (y 0, 77, .inl (upd t_now_w x3.toNatClampNeg (t_now_w (x3 + (3 : Int32)).toNatClampNeg))))] H := hP
        have hD : va_D A [(a_t, .inr (12, [.ref a_t_now, .ref a_t_tried, .ref a_t_kept, .int t_undos, .ref a_t_saved, .int t_isSaved, .ref a_t_line, .int t_lined, .ref a_t_text, .int t_length, .int t_at, .int t_order, .ref a_t_told, .int t_fault, .int t_reason_w, .int t_detail_w, .int t_index_w, .int t_answer_w, .int t_thrown, .ref a_t_way, .int t_went, .int t_fell])), (a_t_now, .inl (y 0, 77, .inl (upd t_now_w x3.toNatClampNeg (t_now_w (x3 + (3 : Int32)).toNatClampNeg))))] := hD
        refine lv_iinc (v := x3 + (1 : Int32)) (lv' := [(3, .int (x3 + (1 : Int32))), (0, .ref a_t), (1, .int x1), (2, .int x2)]) hx hb dX8_drops_60 hl (k := 3) rfl rfl (by decide) rfl (fun ls hl => ?_)
        refine lv_goto (tgt := 32) hx hb dX8_drops_63 (by decide) ?_
        exact ih t_reason_w t_detail_w t_index_w t_answer_w (upd t_now_w x3.toNatClampNeg (t_now_w (x3 + (3 : Int32)).toNatClampNeg)) x1 x2 (x3 + (1 : Int32)) hF _ _ hP hD hS ls (lv_sub hl [1, 2, 3, 0] rfl)
  refine W_entry hav (Nat.le_of_ble_eq_true rfl) (fun ls hl => ?_)
  have hl : lv_has ls 4 [(0, .ref a_t), (1, .int p1)] := hl
  refine lv_aload_n hx hb dX8_drops_0 rfl (lv_at hl 0 rfl) ?_
  refine lv_iload_n hx hb dX8_drops_1 rfl (lv_at hl 1 rfl) ?_
  obtain ⟨r_2, t_reason_2, t_detail_2, t_index_2, hq_2, hF⟩ := bn4_i hF
  refine cm_Vi (As := [.int p1]) (rest := []) (wr := []) ⟨hx, hb, hml, hown, hts⟩ (c_X8_isThere l D y fl s.heap.size a_t a_t_now a_t_tried a_t_kept a_t_saved a_t_line a_t_text a_t_told a_t_way t_undos t_isSaved t_lined t_length t_at t_order t_fault t_reason t_detail t_index t_answer t_thrown t_went t_fell t_now p1 r_2 t_reason_2 t_detail_2 t_index_2 hq_2) (cwV 1 hts gX8_drops_X8_isThere rfl rfl rfl (by decide +kernel) ⟨Nat.le_of_ble_eq_true rfl, Nat.le_of_ble_eq_true rfl⟩) hK hP hD hS hA [0, 1] [] rfl rfl rfl rfl (by decide) rfl rfl rfl hl.1 rfl (Nat.le_of_ble_eq_true rfl) dX8_drops_2 ⟨Nat.le_of_ble_eq_true rfl, Nat.le_of_ble_eq_true rfl⟩ (fun H locs hP hD hS => ?_)
  have hP : va_P D vwCl [(a_t, .inr (12, [.ref a_t_now, .ref a_t_tried, .ref a_t_kept, .int t_undos, .ref a_t_saved, .int t_isSaved, .ref a_t_line, .int t_lined, .ref a_t_text, .int t_length, .int t_at, .int t_order, .ref a_t_told, .int t_fault, .int t_reason_2, .int t_detail_2, .int t_index_2, .int t_answer, .int t_thrown, .ref a_t_way, .int t_went, .int t_fell])), (a_t_now, .inl (y 0, 77, .inl t_now))] H := hP
  have hD : va_D A [(a_t, .inr (12, [.ref a_t_now, .ref a_t_tried, .ref a_t_kept, .int t_undos, .ref a_t_saved, .int t_isSaved, .ref a_t_line, .int t_lined, .ref a_t_text, .int t_length, .int t_at, .int t_order, .ref a_t_told, .int t_fault, .int t_reason_2, .int t_detail_2, .int t_index_2, .int t_answer, .int t_thrown, .ref a_t_way, .int t_went, .int t_fell])), (a_t_now, .inl (y 0, 77, .inl t_now))] := hD
  refine lv_if_ne (tgt := 10) hx hb dX8_drops_5 (by decide) (fun c_5 => ?_) (fun c_5 => ?_)
  · have hF := iff_ hF c_5
    refine lv_aload_n hx hb dX8_drops_10 rfl (lv_at hl 0 rfl) ?_
    refine lv_iload_n hx hb dX8_drops_11 rfl (lv_at hl 1 rfl) ?_
    obtain ⟨r_12, hq_12, hF⟩ := bn_i hF
    refine cr_V (As := [.int p1]) (rest := []) ⟨hx, hb, hml, hown, hts⟩ (c_X8_find l D y fl a_t a_t_now a_t_tried a_t_kept a_t_saved a_t_line a_t_text a_t_told a_t_way t_undos t_isSaved t_lined t_length t_at t_order t_fault t_reason_2 t_detail_2 t_index_2 t_answer t_thrown t_went t_fell t_now p1 r_12 hq_12) (cwV 1 hts gX8_drops_X8_find rfl rfl rfl (by decide +kernel) ⟨Nat.le_of_ble_eq_true rfl, Nat.le_of_ble_eq_true rfl⟩) hK hP [0, 1] rfl rfl rfl rfl hl.1 rfl (Nat.le_of_ble_eq_true rfl) dX8_drops_12 ⟨Nat.le_of_ble_eq_true rfl, Nat.le_of_ble_eq_true rfl⟩ ?_
    refine lv_istore_n (lv' := [(2, .int r_12), (0, .ref a_t), (1, .int p1)]) hx hb dX8_drops_15 rfl hl (by decide) rfl (fun ls hl => ?_)
    refine lv_aload_n hx hb dX8_drops_16 rfl (lv_at hl 1 rfl) ?_
    refine va_get (D := D) (ci := 12) (v := .ref a_t_now) (C := RX8) (T := TX8) (N := 22) hx hb hts iX8_drops_X8 hown hK hP 0 rfl rfl 0 (by decide) (hts (.fieldLink RX8 9 "SkipArchiveModel" "now" "[I") (List.mem_of_getElem? (i := 1) rfl)) (fun _ h9 => h9) rfl dX8_drops_17 ?_
    refine lv_iconst (v := 0) hx hb dX8_drops_20 (by decide) ?_
    refine lv_dup2_11 hx hb dX8_drops_21 rfl rfl ?_
    obtain ⟨g_22, hF⟩ := gi_i hF
    refine va_iald hx hb hK hP 1 0 rfl rfl g_22 dX8_drops_22 ?_
    refine lv_iconst (v := 1) hx hb dX8_drops_23 (by decide) ?_
    refine lv_isub hx hb dX8_drops_24 ?_
    obtain ⟨g_25, hF⟩ := gi_i hF
    refine va_iast hx hb hK hP hD hS 1 0 rfl rfl g_25 dX8_drops_25 (fun H locs hP hD hS => ?_)
    have hP : va_P D vwCl [(a_t, .inr (12, [.ref a_t_now, .ref a_t_tried, .ref a_t_kept, .int t_undos, .ref a_t_saved, .int t_isSaved, .ref a_t_line, .int t_lined, .ref a_t_text, .int t_length, .int t_at, .int t_order, .ref a_t_told, .int t_fault, .int t_reason_2, .int t_detail_2, .int t_index_2, .int t_answer, .int t_thrown, .ref a_t_way, .int t_went, .int t_fell])), (a_t_now, .inl (y 0, 77, .inl (upd t_now (0 : Int32).toNatClampNeg ((t_now (0 : Int32).toNatClampNeg) - (1 : Int32)))))] H := hP
    have hD : va_D A [(a_t, .inr (12, [.ref a_t_now, .ref a_t_tried, .ref a_t_kept, .int t_undos, .ref a_t_saved, .int t_isSaved, .ref a_t_line, .int t_lined, .ref a_t_text, .int t_length, .int t_at, .int t_order, .ref a_t_told, .int t_fault, .int t_reason_2, .int t_detail_2, .int t_index_2, .int t_answer, .int t_thrown, .ref a_t_way, .int t_went, .int t_fell])), (a_t_now, .inl (y 0, 77, .inl (upd t_now (0 : Int32).toNatClampNeg ((t_now (0 : Int32).toNatClampNeg) - (1 : Int32)))))] := hD
    refine lv_iconst (v := 5) hx hb dX8_drops_26 (by decide) ?_
    refine lv_iconst (v := 3) hx hb dX8_drops_27 (by decide) ?_
    refine lv_iload_n hx hb dX8_drops_28 rfl (lv_at hl 0 rfl) ?_
    refine lv_imul hx hb dX8_drops_29 ?_
    refine lv_iadd hx hb dX8_drops_30 ?_
    refine lv_istore_n (lv' := [(3, .int ((5 : Int32) + ((3 : Int32) * r_12))), (2, .int r_12), (0, .ref a_t), (1, .int p1)]) hx hb dX8_drops_31 rfl hl (by decide) rfl (fun ls hl => ?_)
    exact k_32 fl t_reason_2 t_detail_2 t_index_2 t_answer (upd t_now (0 : Int32).toNatClampNeg ((t_now (0 : Int32).toNatClampNeg) - (1 : Int32))) p1 r_12 ((5 : Int32) + ((3 : Int32) * r_12)) hF _ _ hP hD hS ls (lv_sub hl [2, 3, 1, 0] rfl)
  · have hF := ift hF c_5
    refine lv_iconst (v := 0) hx hb dX8_drops_8 (by decide) ?_
    obtain ⟨e0_9, e1_9, e2_9, e3_9, e4_9, e5_9⟩ := inj6 hF
    rw [← e0_9, ← e1_9, ← e2_9, ← e3_9, ← e4_9, ← e5_9] at hQ0
    rw [hQ0]
    exact ret_z hx hb hr (by decide +kernel) hlocks hAe hK hP hD hS [0, 1] rfl rfl dX8_drops_9
def F_X8_drop (fl : Nat) (t_undos : Int32) (t_reason : Int32) (t_detail : Int32) (t_index : Int32) (t_answer : Int32) (t_thrown : Int32) (t_now : Nat → Int32) (t_tried : Nat → Int32) (t_kept : Nat → Int32) (p1 : Int32) : Option (Int32 × Int32 × Int32 × Int32 × Int32 × Int32 × Int32 × (Nat → Int32) × (Nat → Int32) × (Nat → Int32)) := bn2 (F_X8_tries fl t_thrown t_now t_tried) fun t_thrown_1 t_tried_1 => bn6 (F_X8_drops fl t_reason t_detail t_index t_answer t_now p1) fun r_7 t_reason_7 t_detail_7 t_index_7 t_answer_7 t_now_7 => bn4 (F_X8_ends fl t_undos t_answer_7 t_thrown_1 t_tried_1 t_kept r_7) fun r_10 t_undos_10 t_thrown_10 t_kept_10 => some (r_10, t_undos_10, t_reason_7, t_detail_7, t_index_7, t_answer_7, t_thrown_10, t_now_7, t_tried_1, t_kept_10)
set_option maxHeartbeats 4000000 in
set_option maxRecDepth 100000 in
theorem c_X8_drop (l : Launch) (D : va_G) (y : Nat → ClassId) (fl : Nat) (sz : Nat) (a_t : Nat) (a_t_now : Nat) (a_t_tried : Nat) (a_t_kept : Nat) (a_t_saved : Nat) (a_t_line : Nat) (a_t_text : Nat) (a_t_told : Nat) (a_t_way : Nat) (t_undos : Int32) (t_isSaved : Int32) (t_lined : Int32) (t_length : Int32) (t_at : Int32) (t_order : Int32) (t_fault : Int32) (t_reason : Int32) (t_detail : Int32) (t_index : Int32) (t_answer : Int32) (t_thrown : Int32) (t_went : Int32) (t_fell : Int32) (t_now : Nat → Int32) (t_tried : Nat → Int32) (t_kept : Nat → Int32) (p1 : Int32) (r : Int32) (t_undos' : Int32) (t_reason' : Int32) (t_detail' : Int32) (t_index' : Int32) (t_answer' : Int32) (t_thrown' : Int32) (t_now' : Nat → Int32) (t_tried' : Nat → Int32) (t_kept' : Nat → Int32) (hF : F_X8_drop fl t_undos t_reason t_detail t_index t_answer t_thrown t_now t_tried t_kept p1 = some (r, t_undos', t_reason', t_detail', t_index', t_answer', t_thrown', t_now', t_tried', t_kept')) : Met l yX8_drop wsX8_drop (rmq 5 110) (wrP D y [(a_t, .inr (12, [.ref a_t_now, .ref a_t_tried, .ref a_t_kept, .int t_undos, .ref a_t_saved, .int t_isSaved, .ref a_t_line, .int t_lined, .ref a_t_text, .int t_length, .int t_at, .int t_order, .ref a_t_told, .int t_fault, .int t_reason, .int t_detail, .int t_index, .int t_answer, .int t_thrown, .ref a_t_way, .int t_went, .int t_fell])), (a_t_now, .inl (y 0, 77, .inl t_now)), (a_t_tried, .inl (y 0, 77, .inl t_tried)), (a_t_kept, .inl (y 0, 616, .inl t_kept))] sz [.ref a_t, .int p1]) (wQi D y r [(a_t, .inr (12, [.ref a_t_now, .ref a_t_tried, .ref a_t_kept, .int t_undos', .ref a_t_saved, .int t_isSaved, .ref a_t_line, .int t_lined, .ref a_t_text, .int t_length, .int t_at, .int t_order, .ref a_t_told, .int t_fault, .int t_reason', .int t_detail', .int t_index', .int t_answer', .int t_thrown', .ref a_t_way, .int t_went, .int t_fell])), (a_t_now, .inl (y 0, 77, .inl t_now')), (a_t_tried, .inl (y 0, 77, .inl t_tried')), (a_t_kept, .inl (y 0, 616, .inl t_kept'))] [(a_t, .inr (12, [.ref a_t_now, .ref a_t_tried, .ref a_t_kept, .int t_undos, .ref a_t_saved, .int t_isSaved, .ref a_t_line, .int t_lined, .ref a_t_text, .int t_length, .int t_at, .int t_order, .ref a_t_told, .int t_fault, .int t_reason, .int t_detail, .int t_index, .int t_answer, .int t_thrown, .ref a_t_way, .int t_went, .int t_fell])), (a_t_now, .inl (y 0, 77, .inl t_now)), (a_t_tried, .inl (y 0, 77, .inl t_tried)), (a_t_kept, .inl (y 0, 616, .inl t_kept))] sz) 0 0 (va_A [(a_t, .inr (12, [.ref a_t_now, .ref a_t_tried, .ref a_t_kept, .int t_undos, .ref a_t_saved, .int t_isSaved, .ref a_t_line, .int t_lined, .ref a_t_text, .int t_length, .int t_at, .int t_order, .ref a_t_told, .int t_fault, .int t_reason, .int t_detail, .int t_index, .int t_answer, .int t_thrown, .ref a_t_way, .int t_went, .int t_fell])), (a_t_now, .inl (y 0, 77, .inl t_now)), (a_t_tried, .inl (y 0, 77, .inl t_tried)), (a_t_kept, .inl (y 0, 616, .inl t_kept))] sz) := by
  refine Met.ofW (cc := cX8_drop) (maxL := 2) (ret := (some .int)) (by decide) rfl ?_
  intro p e s m args below meth c s₁ B hml hv
  obtain ⟨hav, hsz, hP, hK, hD0⟩ := hv
  have hx := B.exec
  have hb := B.bytes
  have hr := B.returns
  have hts := atoms_spec (ws := wsX8_drop) B.pre
  have hown : s.vm.findClass RX8 = some m.cls := findClass_of_methodNamed B.named
  have hlocks := B.notSynchronized
  subst hsz
  have hD := hD0.self (sz := s.heap.size)
  obtain ⟨A, hAe⟩ : ∃ A : Nat → Prop, va_A [(a_t, .inr (12, [.ref a_t_now, .ref a_t_tried, .ref a_t_kept, .int t_undos, .ref a_t_saved, .int t_isSaved, .ref a_t_line, .int t_lined, .ref a_t_text, .int t_length, .int t_at, .int t_order, .ref a_t_told, .int t_fault, .int t_reason, .int t_detail, .int t_index, .int t_answer, .int t_thrown, .ref a_t_way, .int t_went, .int t_fell])), (a_t_now, .inl (y 0, 77, .inl t_now)), (a_t_tried, .inl (y 0, 77, .inl t_tried)), (a_t_kept, .inl (y 0, 616, .inl t_kept))] s.heap.size = A := ⟨_, rfl⟩
  rw [hAe] at hD
  have hA : ∀ q, s.heap.size ≤ q → A q := fun q h => by rw [← hAe]; exact Or.inr h
  have hS : va_S A s.heap s.heap [] := va_S.rf
  refine W_q (R1 := (rmq 5 110)) rfl (fun Q0 hQ0 => ?_)
  unfold F_X8_drop at hF
  refine W_entry hav (Nat.le_of_ble_eq_true rfl) (fun ls hl => ?_)
  have hl : lv_has ls 2 [(0, .ref a_t), (1, .int p1)] := hl
  refine lv_aload_n hx hb dX8_drop_0 rfl (lv_at hl 0 rfl) ?_
  obtain ⟨t_thrown_1, t_tried_1, hq_1, hF⟩ := bn2_i hF
  refine cm_Vv (As := []) (rest := []) (wr := [(a_t_kept, .inl (y 0, 616, .inl t_kept))]) ⟨hx, hb, hml, hown, hts⟩ (c_X8_tries l D y fl s.heap.size a_t a_t_now a_t_tried a_t_kept a_t_saved a_t_line a_t_text a_t_told a_t_way t_undos t_isSaved t_lined t_length t_at t_order t_fault t_reason t_detail t_index t_answer t_thrown t_went t_fell t_now t_tried t_thrown_1 t_tried_1 hq_1) (cwV 0 hts gX8_drop_X8_tries rfl rfl rfl (by decide +kernel) ⟨Nat.le_of_ble_eq_true rfl, Nat.le_of_ble_eq_true rfl⟩) hK hP hD hS hA [0, 1, 2] [3] rfl rfl rfl rfl (by decide) rfl rfl rfl hl.1 rfl (Nat.le_of_ble_eq_true rfl) dX8_drop_1 ⟨Nat.le_of_ble_eq_true rfl, Nat.le_of_ble_eq_true rfl⟩ (fun H locs hP hD hS => ?_)
  have hP : va_P D vwCl [(a_t_kept, .inl (y 0, 616, .inl t_kept)), (a_t, .inr (12, [.ref a_t_now, .ref a_t_tried, .ref a_t_kept, .int t_undos, .ref a_t_saved, .int t_isSaved, .ref a_t_line, .int t_lined, .ref a_t_text, .int t_length, .int t_at, .int t_order, .ref a_t_told, .int t_fault, .int t_reason, .int t_detail, .int t_index, .int t_answer, .int t_thrown_1, .ref a_t_way, .int t_went, .int t_fell])), (a_t_now, .inl (y 0, 77, .inl t_now)), (a_t_tried, .inl (y 0, 77, .inl t_tried_1))] H := hP
  have hD : va_D A [(a_t_kept, .inl (y 0, 616, .inl t_kept)), (a_t, .inr (12, [.ref a_t_now, .ref a_t_tried, .ref a_t_kept, .int t_undos, .ref a_t_saved, .int t_isSaved, .ref a_t_line, .int t_lined, .ref a_t_text, .int t_length, .int t_at, .int t_order, .ref a_t_told, .int t_fault, .int t_reason, .int t_detail, .int t_index, .int t_answer, .int t_thrown_1, .ref a_t_way, .int t_went, .int t_fell])), (a_t_now, .inl (y 0, 77, .inl t_now)), (a_t_tried, .inl (y 0, 77, .inl t_tried_1))] := hD
  refine lv_aload_n hx hb dX8_drop_4 rfl (lv_at hl 0 rfl) ?_
  refine lv_aload_n hx hb dX8_drop_5 rfl (lv_at hl 0 rfl) ?_
  refine lv_iload_n hx hb dX8_drop_6 rfl (lv_at hl 1 rfl) ?_
  obtain ⟨r_7, t_reason_7, t_detail_7, t_index_7, t_answer_7, t_now_7, hq_7, hF⟩ := bn6_i hF
  refine cm_Vi (As := [.int p1]) (rest := [.ref a_t]) (wr := [(a_t_kept, .inl (y 0, 616, .inl t_kept)), (a_t_tried, .inl (y 0, 77, .inl t_tried_1))]) ⟨hx, hb, hml, hown, hts⟩ (c_X8_drops l D y fl H.size a_t a_t_now a_t_tried a_t_kept a_t_saved a_t_line a_t_text a_t_told a_t_way t_undos t_isSaved t_lined t_length t_at t_order t_fault t_reason t_detail t_index t_answer t_thrown_1 t_went t_fell t_now p1 r_7 t_reason_7 t_detail_7 t_index_7 t_answer_7 t_now_7 hq_7) (cwV 1 hts gX8_drop_X8_drops rfl rfl rfl (by decide +kernel) ⟨Nat.le_of_ble_eq_true rfl, Nat.le_of_ble_eq_true rfl⟩) hK hP hD hS hA [1, 2] [0, 3] rfl rfl rfl rfl (by decide) rfl rfl rfl hl.1 rfl (Nat.le_of_ble_eq_true rfl) dX8_drop_7 ⟨Nat.le_of_ble_eq_true rfl, Nat.le_of_ble_eq_true rfl⟩ (fun H locs hP hD hS => ?_)
  have hP : va_P D vwCl [(a_t_kept, .inl (y 0, 616, .inl t_kept)), (a_t_tried, .inl (y 0, 77, .inl t_tried_1)), (a_t, .inr (12, [.ref a_t_now, .ref a_t_tried, .ref a_t_kept, .int t_undos, .ref a_t_saved, .int t_isSaved, .ref a_t_line, .int t_lined, .ref a_t_text, .int t_length, .int t_at, .int t_order, .ref a_t_told, .int t_fault, .int t_reason_7, .int t_detail_7, .int t_index_7, .int t_answer_7, .int t_thrown_1, .ref a_t_way, .int t_went, .int t_fell])), (a_t_now, .inl (y 0, 77, .inl t_now_7))] H := hP
  have hD : va_D A [(a_t_kept, .inl (y 0, 616, .inl t_kept)), (a_t_tried, .inl (y 0, 77, .inl t_tried_1)), (a_t, .inr (12, [.ref a_t_now, .ref a_t_tried, .ref a_t_kept, .int t_undos, .ref a_t_saved, .int t_isSaved, .ref a_t_line, .int t_lined, .ref a_t_text, .int t_length, .int t_at, .int t_order, .ref a_t_told, .int t_fault, .int t_reason_7, .int t_detail_7, .int t_index_7, .int t_answer_7, .int t_thrown_1, .ref a_t_way, .int t_went, .int t_fell])), (a_t_now, .inl (y 0, 77, .inl t_now_7))] := hD
  obtain ⟨r_10, t_undos_10, t_thrown_10, t_kept_10, hq_10, hF⟩ := bn4_i hF
  refine cm_Vi (As := [.int r_7]) (rest := []) (wr := [(a_t_now, .inl (y 0, 77, .inl t_now_7))]) ⟨hx, hb, hml, hown, hts⟩ (c_X8_ends l D y fl H.size a_t a_t_now a_t_tried a_t_kept a_t_saved a_t_line a_t_text a_t_told a_t_way t_undos t_isSaved t_lined t_length t_at t_order t_fault t_reason_7 t_detail_7 t_index_7 t_answer_7 t_thrown_1 t_went t_fell t_tried_1 t_kept r_7 r_10 t_undos_10 t_thrown_10 t_kept_10 hq_10) (cwV 1 hts gX8_drop_X8_ends rfl rfl rfl (by decide +kernel) ⟨Nat.le_of_ble_eq_true rfl, Nat.le_of_ble_eq_true rfl⟩) hK hP hD hS hA [2, 1, 0] [3] rfl rfl rfl rfl (by decide) rfl rfl rfl hl.1 rfl (Nat.le_of_ble_eq_true rfl) dX8_drop_10 ⟨Nat.le_of_ble_eq_true rfl, Nat.le_of_ble_eq_true rfl⟩ (fun H locs hP hD hS => ?_)
  have hP : va_P D vwCl [(a_t_now, .inl (y 0, 77, .inl t_now_7)), (a_t, .inr (12, [.ref a_t_now, .ref a_t_tried, .ref a_t_kept, .int t_undos_10, .ref a_t_saved, .int t_isSaved, .ref a_t_line, .int t_lined, .ref a_t_text, .int t_length, .int t_at, .int t_order, .ref a_t_told, .int t_fault, .int t_reason_7, .int t_detail_7, .int t_index_7, .int t_answer_7, .int t_thrown_10, .ref a_t_way, .int t_went, .int t_fell])), (a_t_tried, .inl (y 0, 77, .inl t_tried_1)), (a_t_kept, .inl (y 0, 616, .inl t_kept_10))] H := hP
  have hD : va_D A [(a_t_now, .inl (y 0, 77, .inl t_now_7)), (a_t, .inr (12, [.ref a_t_now, .ref a_t_tried, .ref a_t_kept, .int t_undos_10, .ref a_t_saved, .int t_isSaved, .ref a_t_line, .int t_lined, .ref a_t_text, .int t_length, .int t_at, .int t_order, .ref a_t_told, .int t_fault, .int t_reason_7, .int t_detail_7, .int t_index_7, .int t_answer_7, .int t_thrown_10, .ref a_t_way, .int t_went, .int t_fell])), (a_t_tried, .inl (y 0, 77, .inl t_tried_1)), (a_t_kept, .inl (y 0, 616, .inl t_kept_10))] := hD
  obtain ⟨e0_13, e1_13, e2_13, e3_13, e4_13, e5_13, e6_13, e7_13, e8_13, e9_13⟩ := inj10 hF
  rw [← e0_13, ← e1_13, ← e2_13, ← e3_13, ← e4_13, ← e5_13, ← e6_13, ← e7_13, ← e8_13, ← e9_13] at hQ0
  rw [hQ0]
  exact ret_i hx hb hr hlocks hAe hK hP hD hS [1, 0, 2, 3] rfl rfl dX8_drop_13
def F_X8_turns (fl : Nat) (t_reason : Int32) (t_detail : Int32) (t_index : Int32) (t_answer : Int32) (t_now : Nat → Int32) (p1 : Int32) (p2 : Int32) : Option (Int32 × Int32 × Int32 × Int32 × Int32 × (Nat → Int32)) := bn4 (F_X8_isThere fl t_reason t_detail t_index t_now p1) fun r_2 t_reason_2 t_detail_2 t_index_2 => if r_2 = 0 then (some ((0 : Int32), t_reason_2, t_detail_2, t_index_2, t_answer, t_now)) else (bn (F_X8_find fl t_now p1) fun r_12 => bn (F_X8_rungs fl t_now r_12) fun r_18 => bn (F_X8_in fl (r_18 + p2) (1 : Int32) (5 : Int32)) fun r_29 => if r_29 = 0 then (bn (F_X8_rungs fl t_now r_12) fun r_39 => bn4 (F_X8_refuses fl t_reason_2 t_detail_2 t_index_2 (5 : Int32) r_39) fun r_42 t_reason_42 t_detail_42 t_index_42 => gd (okB r_42 = true) (some (r_42, t_reason_42, t_detail_42, t_index_42, t_answer, t_now))) else (gi (((5 : Int32) + ((3 : Int32) * r_12)) + (2 : Int32)) 77 (bn2 (F_X8_does fl t_answer (r_18 + p2)) fun r_63 t_answer_63 => gd (okB r_63 = true) (some (r_63, t_reason_2, t_detail_2, t_index_2, t_answer_63, upd t_now (((5 : Int32) + ((3 : Int32) * r_12)) + (2 : Int32)).toNatClampNeg (r_18 + p2))))))
theorem iX8_turns_X8 : ∀ w ∈ u_ws RX8 TX8 22, w ∈ wsX8_turns := fun w h => List.mem_cons_of_mem _ (List.mem_append_left _ (List.mem_append_right _ h))
set_option maxHeartbeats 4000000 in
set_option maxRecDepth 100000 in
theorem c_X8_turns (l : Launch) (D : va_G) (y : Nat → ClassId) (fl : Nat) (sz : Nat) (a_t : Nat) (a_t_now : Nat) (a_t_tried : Nat) (a_t_kept : Nat) (a_t_saved : Nat) (a_t_line : Nat) (a_t_text : Nat) (a_t_told : Nat) (a_t_way : Nat) (t_undos : Int32) (t_isSaved : Int32) (t_lined : Int32) (t_length : Int32) (t_at : Int32) (t_order : Int32) (t_fault : Int32) (t_reason : Int32) (t_detail : Int32) (t_index : Int32) (t_answer : Int32) (t_thrown : Int32) (t_went : Int32) (t_fell : Int32) (t_now : Nat → Int32) (p1 : Int32) (p2 : Int32) (r : Int32) (t_reason' : Int32) (t_detail' : Int32) (t_index' : Int32) (t_answer' : Int32) (t_now' : Nat → Int32) (hF : F_X8_turns fl t_reason t_detail t_index t_answer t_now p1 p2 = some (r, t_reason', t_detail', t_index', t_answer', t_now')) : Met l yX8_turns wsX8_turns (rmq 4 87) (wrP D y [(a_t, .inr (12, [.ref a_t_now, .ref a_t_tried, .ref a_t_kept, .int t_undos, .ref a_t_saved, .int t_isSaved, .ref a_t_line, .int t_lined, .ref a_t_text, .int t_length, .int t_at, .int t_order, .ref a_t_told, .int t_fault, .int t_reason, .int t_detail, .int t_index, .int t_answer, .int t_thrown, .ref a_t_way, .int t_went, .int t_fell])), (a_t_now, .inl (y 0, 77, .inl t_now))] sz [.ref a_t, .int p1, .int p2]) (wQi D y r [(a_t, .inr (12, [.ref a_t_now, .ref a_t_tried, .ref a_t_kept, .int t_undos, .ref a_t_saved, .int t_isSaved, .ref a_t_line, .int t_lined, .ref a_t_text, .int t_length, .int t_at, .int t_order, .ref a_t_told, .int t_fault, .int t_reason', .int t_detail', .int t_index', .int t_answer', .int t_thrown, .ref a_t_way, .int t_went, .int t_fell])), (a_t_now, .inl (y 0, 77, .inl t_now'))] [(a_t, .inr (12, [.ref a_t_now, .ref a_t_tried, .ref a_t_kept, .int t_undos, .ref a_t_saved, .int t_isSaved, .ref a_t_line, .int t_lined, .ref a_t_text, .int t_length, .int t_at, .int t_order, .ref a_t_told, .int t_fault, .int t_reason, .int t_detail, .int t_index, .int t_answer, .int t_thrown, .ref a_t_way, .int t_went, .int t_fell])), (a_t_now, .inl (y 0, 77, .inl t_now))] sz) 0 0 (va_A [(a_t, .inr (12, [.ref a_t_now, .ref a_t_tried, .ref a_t_kept, .int t_undos, .ref a_t_saved, .int t_isSaved, .ref a_t_line, .int t_lined, .ref a_t_text, .int t_length, .int t_at, .int t_order, .ref a_t_told, .int t_fault, .int t_reason, .int t_detail, .int t_index, .int t_answer, .int t_thrown, .ref a_t_way, .int t_went, .int t_fell])), (a_t_now, .inl (y 0, 77, .inl t_now))] sz) := by
  refine Met.ofW (cc := cX8_turns) (maxL := 5) (ret := (some .boolean)) (by decide) rfl ?_
  intro p e s m args below meth c s₁ B hml hv
  obtain ⟨hav, hsz, hP, hK, hD0⟩ := hv
  have hx := B.exec
  have hb := B.bytes
  have hr := B.returns
  have hts := atoms_spec (ws := wsX8_turns) B.pre
  have hown : s.vm.findClass RX8 = some m.cls := findClass_of_methodNamed B.named
  have hlocks := B.notSynchronized
  subst hsz
  have hD := hD0.self (sz := s.heap.size)
  obtain ⟨A, hAe⟩ : ∃ A : Nat → Prop, va_A [(a_t, .inr (12, [.ref a_t_now, .ref a_t_tried, .ref a_t_kept, .int t_undos, .ref a_t_saved, .int t_isSaved, .ref a_t_line, .int t_lined, .ref a_t_text, .int t_length, .int t_at, .int t_order, .ref a_t_told, .int t_fault, .int t_reason, .int t_detail, .int t_index, .int t_answer, .int t_thrown, .ref a_t_way, .int t_went, .int t_fell])), (a_t_now, .inl (y 0, 77, .inl t_now))] s.heap.size = A := ⟨_, rfl⟩
  rw [hAe] at hD
  have hA : ∀ q, s.heap.size ≤ q → A q := fun q h => by rw [← hAe]; exact Or.inr h
  have hS : va_S A s.heap s.heap [] := va_S.rf
  refine W_q (R1 := (rmq 4 87)) rfl (fun Q0 hQ0 => ?_)
  unfold F_X8_turns at hF
  refine W_entry hav (Nat.le_of_ble_eq_true rfl) (fun ls hl => ?_)
  have hl : lv_has ls 5 [(0, .ref a_t), (1, .int p1), (2, .int p2)] := hl
  refine lv_aload_n hx hb dX8_turns_0 rfl (lv_at hl 0 rfl) ?_
  refine lv_iload_n hx hb dX8_turns_1 rfl (lv_at hl 1 rfl) ?_
  obtain ⟨r_2, t_reason_2, t_detail_2, t_index_2, hq_2, hF⟩ := bn4_i hF
  refine cm_Vi (As := [.int p1]) (rest := []) (wr := []) ⟨hx, hb, hml, hown, hts⟩ (c_X8_isThere l D y fl s.heap.size a_t a_t_now a_t_tried a_t_kept a_t_saved a_t_line a_t_text a_t_told a_t_way t_undos t_isSaved t_lined t_length t_at t_order t_fault t_reason t_detail t_index t_answer t_thrown t_went t_fell t_now p1 r_2 t_reason_2 t_detail_2 t_index_2 hq_2) (cwV 1 hts gX8_turns_X8_isThere rfl rfl rfl (by decide +kernel) ⟨Nat.le_of_ble_eq_true rfl, Nat.le_of_ble_eq_true rfl⟩) hK hP hD hS hA [0, 1] [] rfl rfl rfl rfl (by decide) rfl rfl rfl hl.1 rfl (Nat.le_of_ble_eq_true rfl) dX8_turns_2 ⟨Nat.le_of_ble_eq_true rfl, Nat.le_of_ble_eq_true rfl⟩ (fun H locs hP hD hS => ?_)
  have hP : va_P D vwCl [(a_t, .inr (12, [.ref a_t_now, .ref a_t_tried, .ref a_t_kept, .int t_undos, .ref a_t_saved, .int t_isSaved, .ref a_t_line, .int t_lined, .ref a_t_text, .int t_length, .int t_at, .int t_order, .ref a_t_told, .int t_fault, .int t_reason_2, .int t_detail_2, .int t_index_2, .int t_answer, .int t_thrown, .ref a_t_way, .int t_went, .int t_fell])), (a_t_now, .inl (y 0, 77, .inl t_now))] H := hP
  have hD : va_D A [(a_t, .inr (12, [.ref a_t_now, .ref a_t_tried, .ref a_t_kept, .int t_undos, .ref a_t_saved, .int t_isSaved, .ref a_t_line, .int t_lined, .ref a_t_text, .int t_length, .int t_at, .int t_order, .ref a_t_told, .int t_fault, .int t_reason_2, .int t_detail_2, .int t_index_2, .int t_answer, .int t_thrown, .ref a_t_way, .int t_went, .int t_fell])), (a_t_now, .inl (y 0, 77, .inl t_now))] := hD
  refine lv_if_ne (tgt := 10) hx hb dX8_turns_5 (by decide) (fun c_5 => ?_) (fun c_5 => ?_)
  · have hF := iff_ hF c_5
    refine lv_aload_n hx hb dX8_turns_10 rfl (lv_at hl 0 rfl) ?_
    refine lv_iload_n hx hb dX8_turns_11 rfl (lv_at hl 1 rfl) ?_
    obtain ⟨r_12, hq_12, hF⟩ := bn_i hF
    refine cr_V (As := [.int p1]) (rest := []) ⟨hx, hb, hml, hown, hts⟩ (c_X8_find l D y fl a_t a_t_now a_t_tried a_t_kept a_t_saved a_t_line a_t_text a_t_told a_t_way t_undos t_isSaved t_lined t_length t_at t_order t_fault t_reason_2 t_detail_2 t_index_2 t_answer t_thrown t_went t_fell t_now p1 r_12 hq_12) (cwV 1 hts gX8_turns_X8_find rfl rfl rfl (by decide +kernel) ⟨Nat.le_of_ble_eq_true rfl, Nat.le_of_ble_eq_true rfl⟩) hK hP [0, 1] rfl rfl rfl rfl hl.1 rfl (Nat.le_of_ble_eq_true rfl) dX8_turns_12 ⟨Nat.le_of_ble_eq_true rfl, Nat.le_of_ble_eq_true rfl⟩ ?_
    refine lv_istore_n (lv' := [(3, .int r_12), (0, .ref a_t), (1, .int p1), (2, .int p2)]) hx hb dX8_turns_15 rfl hl (by decide) rfl (fun ls hl => ?_)
    refine lv_aload_n hx hb dX8_turns_16 rfl (lv_at hl 1 rfl) ?_
    refine lv_iload_n hx hb dX8_turns_17 rfl (lv_at hl 0 rfl) ?_
    obtain ⟨r_18, hq_18, hF⟩ := bn_i hF
    refine cr_V (As := [.int r_12]) (rest := []) ⟨hx, hb, hml, hown, hts⟩ (c_X8_rungs l D y fl a_t a_t_now a_t_tried a_t_kept a_t_saved a_t_line a_t_text a_t_told a_t_way t_undos t_isSaved t_lined t_length t_at t_order t_fault t_reason_2 t_detail_2 t_index_2 t_answer t_thrown t_went t_fell t_now r_12 r_18 hq_18) (cwV 1 hts gX8_turns_X8_rungs rfl rfl rfl (by decide +kernel) ⟨Nat.le_of_ble_eq_true rfl, Nat.le_of_ble_eq_true rfl⟩) hK hP [0, 1] rfl rfl rfl rfl hl.1 rfl (Nat.le_of_ble_eq_true rfl) dX8_turns_18 ⟨Nat.le_of_ble_eq_true rfl, Nat.le_of_ble_eq_true rfl⟩ ?_
    refine lv_iload_n hx hb dX8_turns_21 rfl (lv_at hl 3 rfl) ?_
    refine lv_iadd hx hb dX8_turns_22 ?_
    refine lv_istore (lv' := [(4, .int (r_18 + p2)), (3, .int r_12), (0, .ref a_t), (1, .int p1), (2, .int p2)]) hx hb dX8_turns_23 hl (by decide) rfl (fun ls hl => ?_)
    refine lv_iload hx hb dX8_turns_25 (lv_at hl 0 rfl) ?_
    refine lv_iconst (v := 1) hx hb dX8_turns_27 (by decide) ?_
    refine lv_iconst (v := 5) hx hb dX8_turns_28 (by decide) ?_
    obtain ⟨r_29, hq_29, hF⟩ := bn_i hF
    refine cr_S (As := [.int (r_18 + p2), .int (1 : Int32), .int (5 : Int32)]) (rest := []) ⟨hx, hb, hml, hown, hts⟩ (c_X8_in l D y fl (r_18 + p2) (1 : Int32) (5 : Int32) r_29 hq_29) (va_cwS 3 hts gX8_turns_X8_in rfl rfl rfl (by decide +kernel) ⟨Nat.le_of_ble_eq_true rfl, Nat.le_of_ble_eq_true rfl⟩) hK hP [] rfl rfl hl.1 rfl (Nat.le_of_ble_eq_true rfl) dX8_turns_29 ⟨Nat.le_of_ble_eq_true rfl, Nat.le_of_ble_eq_true rfl⟩ ?_
    refine lv_if_ne (tgt := 46) hx hb dX8_turns_32 (by decide) (fun c_32 => ?_) (fun c_32 => ?_)
    · have hF := iff_ hF c_32
      refine lv_aload_n hx hb dX8_turns_46 rfl (lv_at hl 2 rfl) ?_
      refine va_get (D := D) (ci := 12) (v := .ref a_t_now) (C := RX8) (T := TX8) (N := 22) hx hb hts iX8_turns_X8 hown hK hP 0 rfl rfl 0 (by decide) (hts (.fieldLink RX8 9 "SkipArchiveModel" "now" "[I") (List.mem_of_getElem? (i := 1) rfl)) (fun _ h9 => h9) rfl dX8_turns_47 ?_
      refine lv_iconst (v := 5) hx hb dX8_turns_50 (by decide) ?_
      refine lv_iconst (v := 3) hx hb dX8_turns_51 (by decide) ?_
      refine lv_iload_n hx hb dX8_turns_52 rfl (lv_at hl 1 rfl) ?_
      refine lv_imul hx hb dX8_turns_53 ?_
      refine lv_iadd hx hb dX8_turns_54 ?_
      refine lv_iconst (v := 2) hx hb dX8_turns_55 (by decide) ?_
      refine lv_iadd hx hb dX8_turns_56 ?_
      refine lv_iload hx hb dX8_turns_57 (lv_at hl 0 rfl) ?_
      obtain ⟨g_59, hF⟩ := gi_i hF
      refine va_iast hx hb hK hP hD hS 1 0 rfl rfl g_59 dX8_turns_59 (fun H locs hP hD hS => ?_)
      have hP : va_P D vwCl [(a_t, .inr (12, [.ref a_t_now, .ref a_t_tried, .ref a_t_kept, .int t_undos, .ref a_t_saved, .int t_isSaved, .ref a_t_line, .int t_lined, .ref a_t_text, .int t_length, .int t_at, .int t_order, .ref a_t_told, .int t_fault, .int t_reason_2, .int t_detail_2, .int t_index_2, .int t_answer, .int t_thrown, .ref a_t_way, .int t_went, .int t_fell])), (a_t_now, .inl (y 0, 77, .inl (upd t_now (((5 : Int32) + ((3 : Int32) * r_12)) + (2 : Int32)).toNatClampNeg (r_18 + p2))))] H := hP
      have hD : va_D A [(a_t, .inr (12, [.ref a_t_now, .ref a_t_tried, .ref a_t_kept, .int t_undos, .ref a_t_saved, .int t_isSaved, .ref a_t_line, .int t_lined, .ref a_t_text, .int t_length, .int t_at, .int t_order, .ref a_t_told, .int t_fault, .int t_reason_2, .int t_detail_2, .int t_index_2, .int t_answer, .int t_thrown, .ref a_t_way, .int t_went, .int t_fell])), (a_t_now, .inl (y 0, 77, .inl (upd t_now (((5 : Int32) + ((3 : Int32) * r_12)) + (2 : Int32)).toNatClampNeg (r_18 + p2))))] := hD
      refine lv_aload_n hx hb dX8_turns_60 rfl (lv_at hl 2 rfl) ?_
      refine lv_iload hx hb dX8_turns_61 (lv_at hl 0 rfl) ?_
      obtain ⟨r_63, t_answer_63, hq_63, hF⟩ := bn2_i hF
      refine cm_Vi (As := [.int (r_18 + p2)]) (rest := []) (wr := [(a_t_now, .inl (y 0, 77, .inl (upd t_now (((5 : Int32) + ((3 : Int32) * r_12)) + (2 : Int32)).toNatClampNeg (r_18 + p2))))]) ⟨hx, hb, hml, hown, hts⟩ (c_X8_does l D y fl H.size a_t a_t_now a_t_tried a_t_kept a_t_saved a_t_line a_t_text a_t_told a_t_way t_undos t_isSaved t_lined t_length t_at t_order t_fault t_reason_2 t_detail_2 t_index_2 t_answer t_thrown t_went t_fell (r_18 + p2) r_63 t_answer_63 hq_63) (cwV 1 hts gX8_turns_X8_does rfl rfl rfl (by decide +kernel) ⟨Nat.le_of_ble_eq_true rfl, Nat.le_of_ble_eq_true rfl⟩) hK hP hD hS hA [0] [1] rfl rfl rfl rfl (by decide) rfl rfl rfl hl.1 rfl (Nat.le_of_ble_eq_true rfl) dX8_turns_63 ⟨Nat.le_of_ble_eq_true rfl, Nat.le_of_ble_eq_true rfl⟩ (fun H locs hP hD hS => ?_)
      have hP : va_P D vwCl [(a_t_now, .inl (y 0, 77, .inl (upd t_now (((5 : Int32) + ((3 : Int32) * r_12)) + (2 : Int32)).toNatClampNeg (r_18 + p2)))), (a_t, .inr (12, [.ref a_t_now, .ref a_t_tried, .ref a_t_kept, .int t_undos, .ref a_t_saved, .int t_isSaved, .ref a_t_line, .int t_lined, .ref a_t_text, .int t_length, .int t_at, .int t_order, .ref a_t_told, .int t_fault, .int t_reason_2, .int t_detail_2, .int t_index_2, .int t_answer_63, .int t_thrown, .ref a_t_way, .int t_went, .int t_fell]))] H := hP
      have hD : va_D A [(a_t_now, .inl (y 0, 77, .inl (upd t_now (((5 : Int32) + ((3 : Int32) * r_12)) + (2 : Int32)).toNatClampNeg (r_18 + p2)))), (a_t, .inr (12, [.ref a_t_now, .ref a_t_tried, .ref a_t_kept, .int t_undos, .ref a_t_saved, .int t_isSaved, .ref a_t_line, .int t_lined, .ref a_t_text, .int t_length, .int t_at, .int t_order, .ref a_t_told, .int t_fault, .int t_reason_2, .int t_detail_2, .int t_index_2, .int t_answer_63, .int t_thrown, .ref a_t_way, .int t_went, .int t_fell]))] := hD
      obtain ⟨g_66, hF⟩ := gd_i hF
      obtain ⟨e0_66, e1_66, e2_66, e3_66, e4_66, e5_66⟩ := inj6 hF
      rw [← e0_66, ← e1_66, ← e2_66, ← e3_66, ← e4_66, ← e5_66] at hQ0
      rw [hQ0]
      exact ret_z hx hb hr (okB_n g_66).1 hlocks hAe hK hP hD hS [1, 0] rfl rfl dX8_turns_66
    · have hF := ift hF c_32
      refine lv_aload_n hx hb dX8_turns_35 rfl (lv_at hl 2 rfl) ?_
      refine lv_iconst (v := 5) hx hb dX8_turns_36 (by decide) ?_
      refine lv_aload_n hx hb dX8_turns_37 rfl (lv_at hl 2 rfl) ?_
      refine lv_iload_n hx hb dX8_turns_38 rfl (lv_at hl 1 rfl) ?_
      obtain ⟨r_39, hq_39, hF⟩ := bn_i hF
      refine cr_V (As := [.int r_12]) (rest := [.int (5 : Int32), .ref a_t]) ⟨hx, hb, hml, hown, hts⟩ (c_X8_rungs l D y fl a_t a_t_now a_t_tried a_t_kept a_t_saved a_t_line a_t_text a_t_told a_t_way t_undos t_isSaved t_lined t_length t_at t_order t_fault t_reason_2 t_detail_2 t_index_2 t_answer t_thrown t_went t_fell t_now r_12 r_39 hq_39) (cwV 1 hts gX8_turns_X8_rungs rfl rfl rfl (by decide +kernel) ⟨Nat.le_of_ble_eq_true rfl, Nat.le_of_ble_eq_true rfl⟩) hK hP [0, 1] rfl rfl rfl rfl hl.1 rfl (Nat.le_of_ble_eq_true rfl) dX8_turns_39 ⟨Nat.le_of_ble_eq_true rfl, Nat.le_of_ble_eq_true rfl⟩ ?_
      obtain ⟨r_42, t_reason_42, t_detail_42, t_index_42, hq_42, hF⟩ := bn4_i hF
      refine cm_Vi (As := [.int (5 : Int32), .int r_39]) (rest := []) (wr := [(a_t_now, .inl (y 0, 77, .inl t_now))]) ⟨hx, hb, hml, hown, hts⟩ (c_X8_refuses l D y fl H.size a_t a_t_now a_t_tried a_t_kept a_t_saved a_t_line a_t_text a_t_told a_t_way t_undos t_isSaved t_lined t_length t_at t_order t_fault t_reason_2 t_detail_2 t_index_2 t_answer t_thrown t_went t_fell (5 : Int32) r_39 r_42 t_reason_42 t_detail_42 t_index_42 hq_42) (cwV 2 hts gX8_turns_X8_refuses rfl rfl rfl (by decide +kernel) ⟨Nat.le_of_ble_eq_true rfl, Nat.le_of_ble_eq_true rfl⟩) hK hP hD hS hA [0] [1] rfl rfl rfl rfl (by decide) rfl rfl rfl hl.1 rfl (Nat.le_of_ble_eq_true rfl) dX8_turns_42 ⟨Nat.le_of_ble_eq_true rfl, Nat.le_of_ble_eq_true rfl⟩ (fun H locs hP hD hS => ?_)
      have hP : va_P D vwCl [(a_t_now, .inl (y 0, 77, .inl t_now)), (a_t, .inr (12, [.ref a_t_now, .ref a_t_tried, .ref a_t_kept, .int t_undos, .ref a_t_saved, .int t_isSaved, .ref a_t_line, .int t_lined, .ref a_t_text, .int t_length, .int t_at, .int t_order, .ref a_t_told, .int t_fault, .int t_reason_42, .int t_detail_42, .int t_index_42, .int t_answer, .int t_thrown, .ref a_t_way, .int t_went, .int t_fell]))] H := hP
      have hD : va_D A [(a_t_now, .inl (y 0, 77, .inl t_now)), (a_t, .inr (12, [.ref a_t_now, .ref a_t_tried, .ref a_t_kept, .int t_undos, .ref a_t_saved, .int t_isSaved, .ref a_t_line, .int t_lined, .ref a_t_text, .int t_length, .int t_at, .int t_order, .ref a_t_told, .int t_fault, .int t_reason_42, .int t_detail_42, .int t_index_42, .int t_answer, .int t_thrown, .ref a_t_way, .int t_went, .int t_fell]))] := hD
      obtain ⟨g_45, hF⟩ := gd_i hF
      obtain ⟨e0_45, e1_45, e2_45, e3_45, e4_45, e5_45⟩ := inj6 hF
      rw [← e0_45, ← e1_45, ← e2_45, ← e3_45, ← e4_45, ← e5_45] at hQ0
      rw [hQ0]
      exact ret_z hx hb hr (okB_n g_45).1 hlocks hAe hK hP hD hS [1, 0] rfl rfl dX8_turns_45
  · have hF := ift hF c_5
    refine lv_iconst (v := 0) hx hb dX8_turns_8 (by decide) ?_
    obtain ⟨e0_9, e1_9, e2_9, e3_9, e4_9, e5_9⟩ := inj6 hF
    rw [← e0_9, ← e1_9, ← e2_9, ← e3_9, ← e4_9, ← e5_9] at hQ0
    rw [hQ0]
    exact ret_z hx hb hr (by decide +kernel) hlocks hAe hK hP hD hS [0, 1] rfl rfl dX8_turns_9
def F_X8_raise (fl : Nat) (t_undos : Int32) (t_reason : Int32) (t_detail : Int32) (t_index : Int32) (t_answer : Int32) (t_thrown : Int32) (t_now : Nat → Int32) (t_tried : Nat → Int32) (t_kept : Nat → Int32) (p1 : Int32) : Option (Int32 × Int32 × Int32 × Int32 × Int32 × Int32 × Int32 × (Nat → Int32) × (Nat → Int32) × (Nat → Int32)) := bn2 (F_X8_tries fl t_thrown t_now t_tried) fun t_thrown_1 t_tried_1 => bn6 (F_X8_turns fl t_reason t_detail t_index t_answer t_now p1 (1 : Int32)) fun r_8 t_reason_8 t_detail_8 t_index_8 t_answer_8 t_now_8 => bn4 (F_X8_ends fl t_undos t_answer_8 t_thrown_1 t_tried_1 t_kept r_8) fun r_11 t_undos_11 t_thrown_11 t_kept_11 => some (r_11, t_undos_11, t_reason_8, t_detail_8, t_index_8, t_answer_8, t_thrown_11, t_now_8, t_tried_1, t_kept_11)
set_option maxHeartbeats 4000000 in
set_option maxRecDepth 100000 in
theorem c_X8_raise (l : Launch) (D : va_G) (y : Nat → ClassId) (fl : Nat) (sz : Nat) (a_t : Nat) (a_t_now : Nat) (a_t_tried : Nat) (a_t_kept : Nat) (a_t_saved : Nat) (a_t_line : Nat) (a_t_text : Nat) (a_t_told : Nat) (a_t_way : Nat) (t_undos : Int32) (t_isSaved : Int32) (t_lined : Int32) (t_length : Int32) (t_at : Int32) (t_order : Int32) (t_fault : Int32) (t_reason : Int32) (t_detail : Int32) (t_index : Int32) (t_answer : Int32) (t_thrown : Int32) (t_went : Int32) (t_fell : Int32) (t_now : Nat → Int32) (t_tried : Nat → Int32) (t_kept : Nat → Int32) (p1 : Int32) (r : Int32) (t_undos' : Int32) (t_reason' : Int32) (t_detail' : Int32) (t_index' : Int32) (t_answer' : Int32) (t_thrown' : Int32) (t_now' : Nat → Int32) (t_tried' : Nat → Int32) (t_kept' : Nat → Int32) (hF : F_X8_raise fl t_undos t_reason t_detail t_index t_answer t_thrown t_now t_tried t_kept p1 = some (r, t_undos', t_reason', t_detail', t_index', t_answer', t_thrown', t_now', t_tried', t_kept')) : Met l yX8_raise wsX8_raise (rmq 5 111) (wrP D y [(a_t, .inr (12, [.ref a_t_now, .ref a_t_tried, .ref a_t_kept, .int t_undos, .ref a_t_saved, .int t_isSaved, .ref a_t_line, .int t_lined, .ref a_t_text, .int t_length, .int t_at, .int t_order, .ref a_t_told, .int t_fault, .int t_reason, .int t_detail, .int t_index, .int t_answer, .int t_thrown, .ref a_t_way, .int t_went, .int t_fell])), (a_t_now, .inl (y 0, 77, .inl t_now)), (a_t_tried, .inl (y 0, 77, .inl t_tried)), (a_t_kept, .inl (y 0, 616, .inl t_kept))] sz [.ref a_t, .int p1]) (wQi D y r [(a_t, .inr (12, [.ref a_t_now, .ref a_t_tried, .ref a_t_kept, .int t_undos', .ref a_t_saved, .int t_isSaved, .ref a_t_line, .int t_lined, .ref a_t_text, .int t_length, .int t_at, .int t_order, .ref a_t_told, .int t_fault, .int t_reason', .int t_detail', .int t_index', .int t_answer', .int t_thrown', .ref a_t_way, .int t_went, .int t_fell])), (a_t_now, .inl (y 0, 77, .inl t_now')), (a_t_tried, .inl (y 0, 77, .inl t_tried')), (a_t_kept, .inl (y 0, 616, .inl t_kept'))] [(a_t, .inr (12, [.ref a_t_now, .ref a_t_tried, .ref a_t_kept, .int t_undos, .ref a_t_saved, .int t_isSaved, .ref a_t_line, .int t_lined, .ref a_t_text, .int t_length, .int t_at, .int t_order, .ref a_t_told, .int t_fault, .int t_reason, .int t_detail, .int t_index, .int t_answer, .int t_thrown, .ref a_t_way, .int t_went, .int t_fell])), (a_t_now, .inl (y 0, 77, .inl t_now)), (a_t_tried, .inl (y 0, 77, .inl t_tried)), (a_t_kept, .inl (y 0, 616, .inl t_kept))] sz) 0 0 (va_A [(a_t, .inr (12, [.ref a_t_now, .ref a_t_tried, .ref a_t_kept, .int t_undos, .ref a_t_saved, .int t_isSaved, .ref a_t_line, .int t_lined, .ref a_t_text, .int t_length, .int t_at, .int t_order, .ref a_t_told, .int t_fault, .int t_reason, .int t_detail, .int t_index, .int t_answer, .int t_thrown, .ref a_t_way, .int t_went, .int t_fell])), (a_t_now, .inl (y 0, 77, .inl t_now)), (a_t_tried, .inl (y 0, 77, .inl t_tried)), (a_t_kept, .inl (y 0, 616, .inl t_kept))] sz) := by
  refine Met.ofW (cc := cX8_raise) (maxL := 2) (ret := (some .int)) (by decide) rfl ?_
  intro p e s m args below meth c s₁ B hml hv
  obtain ⟨hav, hsz, hP, hK, hD0⟩ := hv
  have hx := B.exec
  have hb := B.bytes
  have hr := B.returns
  have hts := atoms_spec (ws := wsX8_raise) B.pre
  have hown : s.vm.findClass RX8 = some m.cls := findClass_of_methodNamed B.named
  have hlocks := B.notSynchronized
  subst hsz
  have hD := hD0.self (sz := s.heap.size)
  obtain ⟨A, hAe⟩ : ∃ A : Nat → Prop, va_A [(a_t, .inr (12, [.ref a_t_now, .ref a_t_tried, .ref a_t_kept, .int t_undos, .ref a_t_saved, .int t_isSaved, .ref a_t_line, .int t_lined, .ref a_t_text, .int t_length, .int t_at, .int t_order, .ref a_t_told, .int t_fault, .int t_reason, .int t_detail, .int t_index, .int t_answer, .int t_thrown, .ref a_t_way, .int t_went, .int t_fell])), (a_t_now, .inl (y 0, 77, .inl t_now)), (a_t_tried, .inl (y 0, 77, .inl t_tried)), (a_t_kept, .inl (y 0, 616, .inl t_kept))] s.heap.size = A := ⟨_, rfl⟩
  rw [hAe] at hD
  have hA : ∀ q, s.heap.size ≤ q → A q := fun q h => by rw [← hAe]; exact Or.inr h
  have hS : va_S A s.heap s.heap [] := va_S.rf
  refine W_q (R1 := (rmq 5 111)) rfl (fun Q0 hQ0 => ?_)
  unfold F_X8_raise at hF
  refine W_entry hav (Nat.le_of_ble_eq_true rfl) (fun ls hl => ?_)
  have hl : lv_has ls 2 [(0, .ref a_t), (1, .int p1)] := hl
  refine lv_aload_n hx hb dX8_raise_0 rfl (lv_at hl 0 rfl) ?_
  obtain ⟨t_thrown_1, t_tried_1, hq_1, hF⟩ := bn2_i hF
  refine cm_Vv (As := []) (rest := []) (wr := [(a_t_kept, .inl (y 0, 616, .inl t_kept))]) ⟨hx, hb, hml, hown, hts⟩ (c_X8_tries l D y fl s.heap.size a_t a_t_now a_t_tried a_t_kept a_t_saved a_t_line a_t_text a_t_told a_t_way t_undos t_isSaved t_lined t_length t_at t_order t_fault t_reason t_detail t_index t_answer t_thrown t_went t_fell t_now t_tried t_thrown_1 t_tried_1 hq_1) (cwV 0 hts gX8_raise_X8_tries rfl rfl rfl (by decide +kernel) ⟨Nat.le_of_ble_eq_true rfl, Nat.le_of_ble_eq_true rfl⟩) hK hP hD hS hA [0, 1, 2] [3] rfl rfl rfl rfl (by decide) rfl rfl rfl hl.1 rfl (Nat.le_of_ble_eq_true rfl) dX8_raise_1 ⟨Nat.le_of_ble_eq_true rfl, Nat.le_of_ble_eq_true rfl⟩ (fun H locs hP hD hS => ?_)
  have hP : va_P D vwCl [(a_t_kept, .inl (y 0, 616, .inl t_kept)), (a_t, .inr (12, [.ref a_t_now, .ref a_t_tried, .ref a_t_kept, .int t_undos, .ref a_t_saved, .int t_isSaved, .ref a_t_line, .int t_lined, .ref a_t_text, .int t_length, .int t_at, .int t_order, .ref a_t_told, .int t_fault, .int t_reason, .int t_detail, .int t_index, .int t_answer, .int t_thrown_1, .ref a_t_way, .int t_went, .int t_fell])), (a_t_now, .inl (y 0, 77, .inl t_now)), (a_t_tried, .inl (y 0, 77, .inl t_tried_1))] H := hP
  have hD : va_D A [(a_t_kept, .inl (y 0, 616, .inl t_kept)), (a_t, .inr (12, [.ref a_t_now, .ref a_t_tried, .ref a_t_kept, .int t_undos, .ref a_t_saved, .int t_isSaved, .ref a_t_line, .int t_lined, .ref a_t_text, .int t_length, .int t_at, .int t_order, .ref a_t_told, .int t_fault, .int t_reason, .int t_detail, .int t_index, .int t_answer, .int t_thrown_1, .ref a_t_way, .int t_went, .int t_fell])), (a_t_now, .inl (y 0, 77, .inl t_now)), (a_t_tried, .inl (y 0, 77, .inl t_tried_1))] := hD
  refine lv_aload_n hx hb dX8_raise_4 rfl (lv_at hl 0 rfl) ?_
  refine lv_aload_n hx hb dX8_raise_5 rfl (lv_at hl 0 rfl) ?_
  refine lv_iload_n hx hb dX8_raise_6 rfl (lv_at hl 1 rfl) ?_
  refine lv_iconst (v := 1) hx hb dX8_raise_7 (by decide) ?_
  obtain ⟨r_8, t_reason_8, t_detail_8, t_index_8, t_answer_8, t_now_8, hq_8, hF⟩ := bn6_i hF
  refine cm_Vi (As := [.int p1, .int (1 : Int32)]) (rest := [.ref a_t]) (wr := [(a_t_kept, .inl (y 0, 616, .inl t_kept)), (a_t_tried, .inl (y 0, 77, .inl t_tried_1))]) ⟨hx, hb, hml, hown, hts⟩ (c_X8_turns l D y fl H.size a_t a_t_now a_t_tried a_t_kept a_t_saved a_t_line a_t_text a_t_told a_t_way t_undos t_isSaved t_lined t_length t_at t_order t_fault t_reason t_detail t_index t_answer t_thrown_1 t_went t_fell t_now p1 (1 : Int32) r_8 t_reason_8 t_detail_8 t_index_8 t_answer_8 t_now_8 hq_8) (cwV 2 hts gX8_raise_X8_turns rfl rfl rfl (by decide +kernel) ⟨Nat.le_of_ble_eq_true rfl, Nat.le_of_ble_eq_true rfl⟩) hK hP hD hS hA [1, 2] [0, 3] rfl rfl rfl rfl (by decide) rfl rfl rfl hl.1 rfl (Nat.le_of_ble_eq_true rfl) dX8_raise_8 ⟨Nat.le_of_ble_eq_true rfl, Nat.le_of_ble_eq_true rfl⟩ (fun H locs hP hD hS => ?_)
  have hP : va_P D vwCl [(a_t_kept, .inl (y 0, 616, .inl t_kept)), (a_t_tried, .inl (y 0, 77, .inl t_tried_1)), (a_t, .inr (12, [.ref a_t_now, .ref a_t_tried, .ref a_t_kept, .int t_undos, .ref a_t_saved, .int t_isSaved, .ref a_t_line, .int t_lined, .ref a_t_text, .int t_length, .int t_at, .int t_order, .ref a_t_told, .int t_fault, .int t_reason_8, .int t_detail_8, .int t_index_8, .int t_answer_8, .int t_thrown_1, .ref a_t_way, .int t_went, .int t_fell])), (a_t_now, .inl (y 0, 77, .inl t_now_8))] H := hP
  have hD : va_D A [(a_t_kept, .inl (y 0, 616, .inl t_kept)), (a_t_tried, .inl (y 0, 77, .inl t_tried_1)), (a_t, .inr (12, [.ref a_t_now, .ref a_t_tried, .ref a_t_kept, .int t_undos, .ref a_t_saved, .int t_isSaved, .ref a_t_line, .int t_lined, .ref a_t_text, .int t_length, .int t_at, .int t_order, .ref a_t_told, .int t_fault, .int t_reason_8, .int t_detail_8, .int t_index_8, .int t_answer_8, .int t_thrown_1, .ref a_t_way, .int t_went, .int t_fell])), (a_t_now, .inl (y 0, 77, .inl t_now_8))] := hD
  obtain ⟨r_11, t_undos_11, t_thrown_11, t_kept_11, hq_11, hF⟩ := bn4_i hF
  refine cm_Vi (As := [.int r_8]) (rest := []) (wr := [(a_t_now, .inl (y 0, 77, .inl t_now_8))]) ⟨hx, hb, hml, hown, hts⟩ (c_X8_ends l D y fl H.size a_t a_t_now a_t_tried a_t_kept a_t_saved a_t_line a_t_text a_t_told a_t_way t_undos t_isSaved t_lined t_length t_at t_order t_fault t_reason_8 t_detail_8 t_index_8 t_answer_8 t_thrown_1 t_went t_fell t_tried_1 t_kept r_8 r_11 t_undos_11 t_thrown_11 t_kept_11 hq_11) (cwV 1 hts gX8_raise_X8_ends rfl rfl rfl (by decide +kernel) ⟨Nat.le_of_ble_eq_true rfl, Nat.le_of_ble_eq_true rfl⟩) hK hP hD hS hA [2, 1, 0] [3] rfl rfl rfl rfl (by decide) rfl rfl rfl hl.1 rfl (Nat.le_of_ble_eq_true rfl) dX8_raise_11 ⟨Nat.le_of_ble_eq_true rfl, Nat.le_of_ble_eq_true rfl⟩ (fun H locs hP hD hS => ?_)
  have hP : va_P D vwCl [(a_t_now, .inl (y 0, 77, .inl t_now_8)), (a_t, .inr (12, [.ref a_t_now, .ref a_t_tried, .ref a_t_kept, .int t_undos_11, .ref a_t_saved, .int t_isSaved, .ref a_t_line, .int t_lined, .ref a_t_text, .int t_length, .int t_at, .int t_order, .ref a_t_told, .int t_fault, .int t_reason_8, .int t_detail_8, .int t_index_8, .int t_answer_8, .int t_thrown_11, .ref a_t_way, .int t_went, .int t_fell])), (a_t_tried, .inl (y 0, 77, .inl t_tried_1)), (a_t_kept, .inl (y 0, 616, .inl t_kept_11))] H := hP
  have hD : va_D A [(a_t_now, .inl (y 0, 77, .inl t_now_8)), (a_t, .inr (12, [.ref a_t_now, .ref a_t_tried, .ref a_t_kept, .int t_undos_11, .ref a_t_saved, .int t_isSaved, .ref a_t_line, .int t_lined, .ref a_t_text, .int t_length, .int t_at, .int t_order, .ref a_t_told, .int t_fault, .int t_reason_8, .int t_detail_8, .int t_index_8, .int t_answer_8, .int t_thrown_11, .ref a_t_way, .int t_went, .int t_fell])), (a_t_tried, .inl (y 0, 77, .inl t_tried_1)), (a_t_kept, .inl (y 0, 616, .inl t_kept_11))] := hD
  obtain ⟨e0_14, e1_14, e2_14, e3_14, e4_14, e5_14, e6_14, e7_14, e8_14, e9_14⟩ := inj10 hF
  rw [← e0_14, ← e1_14, ← e2_14, ← e3_14, ← e4_14, ← e5_14, ← e6_14, ← e7_14, ← e8_14, ← e9_14] at hQ0
  rw [hQ0]
  exact ret_i hx hb hr hlocks hAe hK hP hD hS [1, 0, 2, 3] rfl rfl dX8_raise_14
def F_X8_lower_ (fl : Nat) (t_undos : Int32) (t_reason : Int32) (t_detail : Int32) (t_index : Int32) (t_answer : Int32) (t_thrown : Int32) (t_now : Nat → Int32) (t_tried : Nat → Int32) (t_kept : Nat → Int32) (p1 : Int32) : Option (Int32 × Int32 × Int32 × Int32 × Int32 × Int32 × Int32 × (Nat → Int32) × (Nat → Int32) × (Nat → Int32)) := bn2 (F_X8_tries fl t_thrown t_now t_tried) fun t_thrown_1 t_tried_1 => bn6 (F_X8_turns fl t_reason t_detail t_index t_answer t_now p1 (-1 : Int32)) fun r_8 t_reason_8 t_detail_8 t_index_8 t_answer_8 t_now_8 => bn4 (F_X8_ends fl t_undos t_answer_8 t_thrown_1 t_tried_1 t_kept r_8) fun r_11 t_undos_11 t_thrown_11 t_kept_11 => some (r_11, t_undos_11, t_reason_8, t_detail_8, t_index_8, t_answer_8, t_thrown_11, t_now_8, t_tried_1, t_kept_11)
set_option maxHeartbeats 4000000 in
set_option maxRecDepth 100000 in
theorem c_X8_lower_ (l : Launch) (D : va_G) (y : Nat → ClassId) (fl : Nat) (sz : Nat) (a_t : Nat) (a_t_now : Nat) (a_t_tried : Nat) (a_t_kept : Nat) (a_t_saved : Nat) (a_t_line : Nat) (a_t_text : Nat) (a_t_told : Nat) (a_t_way : Nat) (t_undos : Int32) (t_isSaved : Int32) (t_lined : Int32) (t_length : Int32) (t_at : Int32) (t_order : Int32) (t_fault : Int32) (t_reason : Int32) (t_detail : Int32) (t_index : Int32) (t_answer : Int32) (t_thrown : Int32) (t_went : Int32) (t_fell : Int32) (t_now : Nat → Int32) (t_tried : Nat → Int32) (t_kept : Nat → Int32) (p1 : Int32) (r : Int32) (t_undos' : Int32) (t_reason' : Int32) (t_detail' : Int32) (t_index' : Int32) (t_answer' : Int32) (t_thrown' : Int32) (t_now' : Nat → Int32) (t_tried' : Nat → Int32) (t_kept' : Nat → Int32) (hF : F_X8_lower_ fl t_undos t_reason t_detail t_index t_answer t_thrown t_now t_tried t_kept p1 = some (r, t_undos', t_reason', t_detail', t_index', t_answer', t_thrown', t_now', t_tried', t_kept')) : Met l yX8_lower_ wsX8_lower_ (rmq 5 111) (wrP D y [(a_t, .inr (12, [.ref a_t_now, .ref a_t_tried, .ref a_t_kept, .int t_undos, .ref a_t_saved, .int t_isSaved, .ref a_t_line, .int t_lined, .ref a_t_text, .int t_length, .int t_at, .int t_order, .ref a_t_told, .int t_fault, .int t_reason, .int t_detail, .int t_index, .int t_answer, .int t_thrown, .ref a_t_way, .int t_went, .int t_fell])), (a_t_now, .inl (y 0, 77, .inl t_now)), (a_t_tried, .inl (y 0, 77, .inl t_tried)), (a_t_kept, .inl (y 0, 616, .inl t_kept))] sz [.ref a_t, .int p1]) (wQi D y r [(a_t, .inr (12, [.ref a_t_now, .ref a_t_tried, .ref a_t_kept, .int t_undos', .ref a_t_saved, .int t_isSaved, .ref a_t_line, .int t_lined, .ref a_t_text, .int t_length, .int t_at, .int t_order, .ref a_t_told, .int t_fault, .int t_reason', .int t_detail', .int t_index', .int t_answer', .int t_thrown', .ref a_t_way, .int t_went, .int t_fell])), (a_t_now, .inl (y 0, 77, .inl t_now')), (a_t_tried, .inl (y 0, 77, .inl t_tried')), (a_t_kept, .inl (y 0, 616, .inl t_kept'))] [(a_t, .inr (12, [.ref a_t_now, .ref a_t_tried, .ref a_t_kept, .int t_undos, .ref a_t_saved, .int t_isSaved, .ref a_t_line, .int t_lined, .ref a_t_text, .int t_length, .int t_at, .int t_order, .ref a_t_told, .int t_fault, .int t_reason, .int t_detail, .int t_index, .int t_answer, .int t_thrown, .ref a_t_way, .int t_went, .int t_fell])), (a_t_now, .inl (y 0, 77, .inl t_now)), (a_t_tried, .inl (y 0, 77, .inl t_tried)), (a_t_kept, .inl (y 0, 616, .inl t_kept))] sz) 0 0 (va_A [(a_t, .inr (12, [.ref a_t_now, .ref a_t_tried, .ref a_t_kept, .int t_undos, .ref a_t_saved, .int t_isSaved, .ref a_t_line, .int t_lined, .ref a_t_text, .int t_length, .int t_at, .int t_order, .ref a_t_told, .int t_fault, .int t_reason, .int t_detail, .int t_index, .int t_answer, .int t_thrown, .ref a_t_way, .int t_went, .int t_fell])), (a_t_now, .inl (y 0, 77, .inl t_now)), (a_t_tried, .inl (y 0, 77, .inl t_tried)), (a_t_kept, .inl (y 0, 616, .inl t_kept))] sz) := by
  refine Met.ofW (cc := cX8_lower_) (maxL := 2) (ret := (some .int)) (by decide) rfl ?_
  intro p e s m args below meth c s₁ B hml hv
  obtain ⟨hav, hsz, hP, hK, hD0⟩ := hv
  have hx := B.exec
  have hb := B.bytes
  have hr := B.returns
  have hts := atoms_spec (ws := wsX8_lower_) B.pre
  have hown : s.vm.findClass RX8 = some m.cls := findClass_of_methodNamed B.named
  have hlocks := B.notSynchronized
  subst hsz
  have hD := hD0.self (sz := s.heap.size)
  obtain ⟨A, hAe⟩ : ∃ A : Nat → Prop, va_A [(a_t, .inr (12, [.ref a_t_now, .ref a_t_tried, .ref a_t_kept, .int t_undos, .ref a_t_saved, .int t_isSaved, .ref a_t_line, .int t_lined, .ref a_t_text, .int t_length, .int t_at, .int t_order, .ref a_t_told, .int t_fault, .int t_reason, .int t_detail, .int t_index, .int t_answer, .int t_thrown, .ref a_t_way, .int t_went, .int t_fell])), (a_t_now, .inl (y 0, 77, .inl t_now)), (a_t_tried, .inl (y 0, 77, .inl t_tried)), (a_t_kept, .inl (y 0, 616, .inl t_kept))] s.heap.size = A := ⟨_, rfl⟩
  rw [hAe] at hD
  have hA : ∀ q, s.heap.size ≤ q → A q := fun q h => by rw [← hAe]; exact Or.inr h
  have hS : va_S A s.heap s.heap [] := va_S.rf
  refine W_q (R1 := (rmq 5 111)) rfl (fun Q0 hQ0 => ?_)
  unfold F_X8_lower_ at hF
  refine W_entry hav (Nat.le_of_ble_eq_true rfl) (fun ls hl => ?_)
  have hl : lv_has ls 2 [(0, .ref a_t), (1, .int p1)] := hl
  refine lv_aload_n hx hb dX8_lower__0 rfl (lv_at hl 0 rfl) ?_
  obtain ⟨t_thrown_1, t_tried_1, hq_1, hF⟩ := bn2_i hF
  refine cm_Vv (As := []) (rest := []) (wr := [(a_t_kept, .inl (y 0, 616, .inl t_kept))]) ⟨hx, hb, hml, hown, hts⟩ (c_X8_tries l D y fl s.heap.size a_t a_t_now a_t_tried a_t_kept a_t_saved a_t_line a_t_text a_t_told a_t_way t_undos t_isSaved t_lined t_length t_at t_order t_fault t_reason t_detail t_index t_answer t_thrown t_went t_fell t_now t_tried t_thrown_1 t_tried_1 hq_1) (cwV 0 hts gX8_lower__X8_tries rfl rfl rfl (by decide +kernel) ⟨Nat.le_of_ble_eq_true rfl, Nat.le_of_ble_eq_true rfl⟩) hK hP hD hS hA [0, 1, 2] [3] rfl rfl rfl rfl (by decide) rfl rfl rfl hl.1 rfl (Nat.le_of_ble_eq_true rfl) dX8_lower__1 ⟨Nat.le_of_ble_eq_true rfl, Nat.le_of_ble_eq_true rfl⟩ (fun H locs hP hD hS => ?_)
  have hP : va_P D vwCl [(a_t_kept, .inl (y 0, 616, .inl t_kept)), (a_t, .inr (12, [.ref a_t_now, .ref a_t_tried, .ref a_t_kept, .int t_undos, .ref a_t_saved, .int t_isSaved, .ref a_t_line, .int t_lined, .ref a_t_text, .int t_length, .int t_at, .int t_order, .ref a_t_told, .int t_fault, .int t_reason, .int t_detail, .int t_index, .int t_answer, .int t_thrown_1, .ref a_t_way, .int t_went, .int t_fell])), (a_t_now, .inl (y 0, 77, .inl t_now)), (a_t_tried, .inl (y 0, 77, .inl t_tried_1))] H := hP
  have hD : va_D A [(a_t_kept, .inl (y 0, 616, .inl t_kept)), (a_t, .inr (12, [.ref a_t_now, .ref a_t_tried, .ref a_t_kept, .int t_undos, .ref a_t_saved, .int t_isSaved, .ref a_t_line, .int t_lined, .ref a_t_text, .int t_length, .int t_at, .int t_order, .ref a_t_told, .int t_fault, .int t_reason, .int t_detail, .int t_index, .int t_answer, .int t_thrown_1, .ref a_t_way, .int t_went, .int t_fell])), (a_t_now, .inl (y 0, 77, .inl t_now)), (a_t_tried, .inl (y 0, 77, .inl t_tried_1))] := hD
  refine lv_aload_n hx hb dX8_lower__4 rfl (lv_at hl 0 rfl) ?_
  refine lv_aload_n hx hb dX8_lower__5 rfl (lv_at hl 0 rfl) ?_
  refine lv_iload_n hx hb dX8_lower__6 rfl (lv_at hl 1 rfl) ?_
  refine lv_iconst (v := -1) hx hb dX8_lower__7 (by decide) ?_
  obtain ⟨r_8, t_reason_8, t_detail_8, t_index_8, t_answer_8, t_now_8, hq_8, hF⟩ := bn6_i hF
  refine cm_Vi (As := [.int p1, .int (-1 : Int32)]) (rest := [.ref a_t]) (wr := [(a_t_kept, .inl (y 0, 616, .inl t_kept)), (a_t_tried, .inl (y 0, 77, .inl t_tried_1))]) ⟨hx, hb, hml, hown, hts⟩ (c_X8_turns l D y fl H.size a_t a_t_now a_t_tried a_t_kept a_t_saved a_t_line a_t_text a_t_told a_t_way t_undos t_isSaved t_lined t_length t_at t_order t_fault t_reason t_detail t_index t_answer t_thrown_1 t_went t_fell t_now p1 (-1 : Int32) r_8 t_reason_8 t_detail_8 t_index_8 t_answer_8 t_now_8 hq_8) (cwV 2 hts gX8_lower__X8_turns rfl rfl rfl (by decide +kernel) ⟨Nat.le_of_ble_eq_true rfl, Nat.le_of_ble_eq_true rfl⟩) hK hP hD hS hA [1, 2] [0, 3] rfl rfl rfl rfl (by decide) rfl rfl rfl hl.1 rfl (Nat.le_of_ble_eq_true rfl) dX8_lower__8 ⟨Nat.le_of_ble_eq_true rfl, Nat.le_of_ble_eq_true rfl⟩ (fun H locs hP hD hS => ?_)
  have hP : va_P D vwCl [(a_t_kept, .inl (y 0, 616, .inl t_kept)), (a_t_tried, .inl (y 0, 77, .inl t_tried_1)), (a_t, .inr (12, [.ref a_t_now, .ref a_t_tried, .ref a_t_kept, .int t_undos, .ref a_t_saved, .int t_isSaved, .ref a_t_line, .int t_lined, .ref a_t_text, .int t_length, .int t_at, .int t_order, .ref a_t_told, .int t_fault, .int t_reason_8, .int t_detail_8, .int t_index_8, .int t_answer_8, .int t_thrown_1, .ref a_t_way, .int t_went, .int t_fell])), (a_t_now, .inl (y 0, 77, .inl t_now_8))] H := hP
  have hD : va_D A [(a_t_kept, .inl (y 0, 616, .inl t_kept)), (a_t_tried, .inl (y 0, 77, .inl t_tried_1)), (a_t, .inr (12, [.ref a_t_now, .ref a_t_tried, .ref a_t_kept, .int t_undos, .ref a_t_saved, .int t_isSaved, .ref a_t_line, .int t_lined, .ref a_t_text, .int t_length, .int t_at, .int t_order, .ref a_t_told, .int t_fault, .int t_reason_8, .int t_detail_8, .int t_index_8, .int t_answer_8, .int t_thrown_1, .ref a_t_way, .int t_went, .int t_fell])), (a_t_now, .inl (y 0, 77, .inl t_now_8))] := hD
  obtain ⟨r_11, t_undos_11, t_thrown_11, t_kept_11, hq_11, hF⟩ := bn4_i hF
  refine cm_Vi (As := [.int r_8]) (rest := []) (wr := [(a_t_now, .inl (y 0, 77, .inl t_now_8))]) ⟨hx, hb, hml, hown, hts⟩ (c_X8_ends l D y fl H.size a_t a_t_now a_t_tried a_t_kept a_t_saved a_t_line a_t_text a_t_told a_t_way t_undos t_isSaved t_lined t_length t_at t_order t_fault t_reason_8 t_detail_8 t_index_8 t_answer_8 t_thrown_1 t_went t_fell t_tried_1 t_kept r_8 r_11 t_undos_11 t_thrown_11 t_kept_11 hq_11) (cwV 1 hts gX8_lower__X8_ends rfl rfl rfl (by decide +kernel) ⟨Nat.le_of_ble_eq_true rfl, Nat.le_of_ble_eq_true rfl⟩) hK hP hD hS hA [2, 1, 0] [3] rfl rfl rfl rfl (by decide) rfl rfl rfl hl.1 rfl (Nat.le_of_ble_eq_true rfl) dX8_lower__11 ⟨Nat.le_of_ble_eq_true rfl, Nat.le_of_ble_eq_true rfl⟩ (fun H locs hP hD hS => ?_)
  have hP : va_P D vwCl [(a_t_now, .inl (y 0, 77, .inl t_now_8)), (a_t, .inr (12, [.ref a_t_now, .ref a_t_tried, .ref a_t_kept, .int t_undos_11, .ref a_t_saved, .int t_isSaved, .ref a_t_line, .int t_lined, .ref a_t_text, .int t_length, .int t_at, .int t_order, .ref a_t_told, .int t_fault, .int t_reason_8, .int t_detail_8, .int t_index_8, .int t_answer_8, .int t_thrown_11, .ref a_t_way, .int t_went, .int t_fell])), (a_t_tried, .inl (y 0, 77, .inl t_tried_1)), (a_t_kept, .inl (y 0, 616, .inl t_kept_11))] H := hP
  have hD : va_D A [(a_t_now, .inl (y 0, 77, .inl t_now_8)), (a_t, .inr (12, [.ref a_t_now, .ref a_t_tried, .ref a_t_kept, .int t_undos_11, .ref a_t_saved, .int t_isSaved, .ref a_t_line, .int t_lined, .ref a_t_text, .int t_length, .int t_at, .int t_order, .ref a_t_told, .int t_fault, .int t_reason_8, .int t_detail_8, .int t_index_8, .int t_answer_8, .int t_thrown_11, .ref a_t_way, .int t_went, .int t_fell])), (a_t_tried, .inl (y 0, 77, .inl t_tried_1)), (a_t_kept, .inl (y 0, 616, .inl t_kept_11))] := hD
  obtain ⟨e0_14, e1_14, e2_14, e3_14, e4_14, e5_14, e6_14, e7_14, e8_14, e9_14⟩ := inj10 hF
  rw [← e0_14, ← e1_14, ← e2_14, ← e3_14, ← e4_14, ← e5_14, ← e6_14, ← e7_14, ← e8_14, ← e9_14] at hQ0
  rw [hQ0]
  exact ret_i hx hb hr hlocks hAe hK hP hD hS [1, 0, 2, 3] rfl rfl dX8_lower__14
def F_X8_puts (fl : Nat) (t_reason : Int32) (t_detail : Int32) (t_index : Int32) (t_answer : Int32) (t_now : Nat → Int32) (p1 : Int32) (p2 : Int32) : Option (Int32 × Int32 × Int32 × Int32 × Int32 × (Nat → Int32)) := bn (F_X8_in fl p1 (1 : Int32) (4 : Int32)) fun r_3 => if r_3 = 0 then (bn4 (F_X8_refuses fl t_reason t_detail t_index (1 : Int32) (0 : Int32)) fun r_12 t_reason_12 t_detail_12 t_index_12 => gd (okB r_12 = true) (some (r_12, t_reason_12, t_detail_12, t_index_12, t_answer, t_now))) else (bn (F_X8_isOut fl t_now p1) fun r_18 => if r_18 = p2 then (bn4 (F_X8_refuses fl t_reason t_detail t_index (6 : Int32) p1) fun r_29 t_reason_29 t_detail_29 t_index_29 => gd (okB r_29 = true) (some (r_29, t_reason_29, t_detail_29, t_index_29, t_answer, t_now))) else (gi (4 : Int32) 77 (gi (4 : Int32) 77 (bn (F_X8_sizeOf fl (upd t_now (4 : Int32).toNatClampNeg ((t_now (4 : Int32).toNatClampNeg) ^^^ ((1 : Int32) <<< (p1 &&& 31)))) p1) fun r_48 => bn2 (F_X8_does fl t_answer r_48) fun r_51 t_answer_51 => gd (okB r_51 = true) (some (r_51, t_reason, t_detail, t_index, t_answer_51, upd t_now (4 : Int32).toNatClampNeg ((t_now (4 : Int32).toNatClampNeg) ^^^ ((1 : Int32) <<< (p1 &&& 31)))))))))
theorem iX8_puts_X8 : ∀ w ∈ u_ws RX8 TX8 22, w ∈ wsX8_puts := fun w h => List.mem_cons_of_mem _ (List.mem_append_left _ (List.mem_append_right _ h))
set_option maxHeartbeats 4000000 in
set_option maxRecDepth 100000 in
theorem c_X8_puts (l : Launch) (D : va_G) (y : Nat → ClassId) (fl : Nat) (sz : Nat) (a_t : Nat) (a_t_now : Nat) (a_t_tried : Nat) (a_t_kept : Nat) (a_t_saved : Nat) (a_t_line : Nat) (a_t_text : Nat) (a_t_told : Nat) (a_t_way : Nat) (t_undos : Int32) (t_isSaved : Int32) (t_lined : Int32) (t_length : Int32) (t_at : Int32) (t_order : Int32) (t_fault : Int32) (t_reason : Int32) (t_detail : Int32) (t_index : Int32) (t_answer : Int32) (t_thrown : Int32) (t_went : Int32) (t_fell : Int32) (t_now : Nat → Int32) (p1 : Int32) (p2 : Int32) (r : Int32) (t_reason' : Int32) (t_detail' : Int32) (t_index' : Int32) (t_answer' : Int32) (t_now' : Nat → Int32) (hF : F_X8_puts fl t_reason t_detail t_index t_answer t_now p1 p2 = some (r, t_reason', t_detail', t_index', t_answer', t_now')) : Met l yX8_puts wsX8_puts (rmq 2 44) (wrP D y [(a_t, .inr (12, [.ref a_t_now, .ref a_t_tried, .ref a_t_kept, .int t_undos, .ref a_t_saved, .int t_isSaved, .ref a_t_line, .int t_lined, .ref a_t_text, .int t_length, .int t_at, .int t_order, .ref a_t_told, .int t_fault, .int t_reason, .int t_detail, .int t_index, .int t_answer, .int t_thrown, .ref a_t_way, .int t_went, .int t_fell])), (a_t_now, .inl (y 0, 77, .inl t_now))] sz [.ref a_t, .int p1, .int p2]) (wQi D y r [(a_t, .inr (12, [.ref a_t_now, .ref a_t_tried, .ref a_t_kept, .int t_undos, .ref a_t_saved, .int t_isSaved, .ref a_t_line, .int t_lined, .ref a_t_text, .int t_length, .int t_at, .int t_order, .ref a_t_told, .int t_fault, .int t_reason', .int t_detail', .int t_index', .int t_answer', .int t_thrown, .ref a_t_way, .int t_went, .int t_fell])), (a_t_now, .inl (y 0, 77, .inl t_now'))] [(a_t, .inr (12, [.ref a_t_now, .ref a_t_tried, .ref a_t_kept, .int t_undos, .ref a_t_saved, .int t_isSaved, .ref a_t_line, .int t_lined, .ref a_t_text, .int t_length, .int t_at, .int t_order, .ref a_t_told, .int t_fault, .int t_reason, .int t_detail, .int t_index, .int t_answer, .int t_thrown, .ref a_t_way, .int t_went, .int t_fell])), (a_t_now, .inl (y 0, 77, .inl t_now))] sz) 0 0 (va_A [(a_t, .inr (12, [.ref a_t_now, .ref a_t_tried, .ref a_t_kept, .int t_undos, .ref a_t_saved, .int t_isSaved, .ref a_t_line, .int t_lined, .ref a_t_text, .int t_length, .int t_at, .int t_order, .ref a_t_told, .int t_fault, .int t_reason, .int t_detail, .int t_index, .int t_answer, .int t_thrown, .ref a_t_way, .int t_went, .int t_fell])), (a_t_now, .inl (y 0, 77, .inl t_now))] sz) := by
  refine Met.ofW (cc := cX8_puts) (maxL := 3) (ret := (some .boolean)) (by decide) rfl ?_
  intro p e s m args below meth c s₁ B hml hv
  obtain ⟨hav, hsz, hP, hK, hD0⟩ := hv
  have hx := B.exec
  have hb := B.bytes
  have hr := B.returns
  have hts := atoms_spec (ws := wsX8_puts) B.pre
  have hown : s.vm.findClass RX8 = some m.cls := findClass_of_methodNamed B.named
  have hlocks := B.notSynchronized
  subst hsz
  have hD := hD0.self (sz := s.heap.size)
  obtain ⟨A, hAe⟩ : ∃ A : Nat → Prop, va_A [(a_t, .inr (12, [.ref a_t_now, .ref a_t_tried, .ref a_t_kept, .int t_undos, .ref a_t_saved, .int t_isSaved, .ref a_t_line, .int t_lined, .ref a_t_text, .int t_length, .int t_at, .int t_order, .ref a_t_told, .int t_fault, .int t_reason, .int t_detail, .int t_index, .int t_answer, .int t_thrown, .ref a_t_way, .int t_went, .int t_fell])), (a_t_now, .inl (y 0, 77, .inl t_now))] s.heap.size = A := ⟨_, rfl⟩
  rw [hAe] at hD
  have hA : ∀ q, s.heap.size ≤ q → A q := fun q h => by rw [← hAe]; exact Or.inr h
  have hS : va_S A s.heap s.heap [] := va_S.rf
  refine W_q (R1 := (rmq 2 44)) rfl (fun Q0 hQ0 => ?_)
  unfold F_X8_puts at hF
  refine W_entry hav (Nat.le_of_ble_eq_true rfl) (fun ls hl => ?_)
  have hl : lv_has ls 3 [(0, .ref a_t), (1, .int p1), (2, .int p2)] := hl
  refine lv_iload_n hx hb dX8_puts_0 rfl (lv_at hl 1 rfl) ?_
  refine lv_iconst (v := 1) hx hb dX8_puts_1 (by decide) ?_
  refine lv_iconst (v := 4) hx hb dX8_puts_2 (by decide) ?_
  obtain ⟨r_3, hq_3, hF⟩ := bn_i hF
  refine cr_S (As := [.int p1, .int (1 : Int32), .int (4 : Int32)]) (rest := []) ⟨hx, hb, hml, hown, hts⟩ (c_X8_in l D y fl p1 (1 : Int32) (4 : Int32) r_3 hq_3) (va_cwS 3 hts gX8_puts_X8_in rfl rfl rfl (by decide +kernel) ⟨Nat.le_of_ble_eq_true rfl, Nat.le_of_ble_eq_true rfl⟩) hK hP [] rfl rfl hl.1 rfl (Nat.le_of_ble_eq_true rfl) dX8_puts_3 ⟨Nat.le_of_ble_eq_true rfl, Nat.le_of_ble_eq_true rfl⟩ ?_
  refine lv_if_ne (tgt := 16) hx hb dX8_puts_6 (by decide) (fun c_6 => ?_) (fun c_6 => ?_)
  · have hF := iff_ hF c_6
    refine lv_aload_n hx hb dX8_puts_16 rfl (lv_at hl 0 rfl) ?_
    refine lv_iload_n hx hb dX8_puts_17 rfl (lv_at hl 1 rfl) ?_
    obtain ⟨r_18, hq_18, hF⟩ := bn_i hF
    refine cr_V (As := [.int p1]) (rest := []) ⟨hx, hb, hml, hown, hts⟩ (c_X8_isOut l D y fl a_t a_t_now a_t_tried a_t_kept a_t_saved a_t_line a_t_text a_t_told a_t_way t_undos t_isSaved t_lined t_length t_at t_order t_fault t_reason t_detail t_index t_answer t_thrown t_went t_fell t_now p1 r_18 hq_18) (cwV 1 hts gX8_puts_X8_isOut rfl rfl rfl (by decide +kernel) ⟨Nat.le_of_ble_eq_true rfl, Nat.le_of_ble_eq_true rfl⟩) hK hP [0, 1] rfl rfl rfl rfl hl.1 rfl (Nat.le_of_ble_eq_true rfl) dX8_puts_18 ⟨Nat.le_of_ble_eq_true rfl, Nat.le_of_ble_eq_true rfl⟩ ?_
    refine lv_iload_n hx hb dX8_puts_21 rfl (lv_at hl 2 rfl) ?_
    refine lv_icmp_ne (tgt := 33) hx hb dX8_puts_22 (by decide) (fun c_22 => ?_) (fun c_22 => ?_)
    · have hF := iff_ hF c_22
      refine lv_aload_n hx hb dX8_puts_33 rfl (lv_at hl 0 rfl) ?_
      refine va_get (D := D) (ci := 12) (v := .ref a_t_now) (C := RX8) (T := TX8) (N := 22) hx hb hts iX8_puts_X8 hown hK hP 0 rfl rfl 0 (by decide) (hts (.fieldLink RX8 9 "SkipArchiveModel" "now" "[I") (List.mem_of_getElem? (i := 1) rfl)) (fun _ h9 => h9) rfl dX8_puts_34 ?_
      refine lv_iconst (v := 4) hx hb dX8_puts_37 (by decide) ?_
      refine lv_dup2_11 hx hb dX8_puts_38 rfl rfl ?_
      obtain ⟨g_39, hF⟩ := gi_i hF
      refine va_iald hx hb hK hP 1 0 rfl rfl g_39 dX8_puts_39 ?_
      refine lv_iconst (v := 1) hx hb dX8_puts_40 (by decide) ?_
      refine lv_iload_n hx hb dX8_puts_41 rfl (lv_at hl 1 rfl) ?_
      refine lv_ishl hx hb dX8_puts_42 ?_
      refine lv_ixor hx hb dX8_puts_43 ?_
      obtain ⟨g_44, hF⟩ := gi_i hF
      refine va_iast hx hb hK hP hD hS 1 0 rfl rfl g_44 dX8_puts_44 (fun H locs hP hD hS => ?_)
      have hP : va_P D vwCl [(a_t, .inr (12, [.ref a_t_now, .ref a_t_tried, .ref a_t_kept, .int t_undos, .ref a_t_saved, .int t_isSaved, .ref a_t_line, .int t_lined, .ref a_t_text, .int t_length, .int t_at, .int t_order, .ref a_t_told, .int t_fault, .int t_reason, .int t_detail, .int t_index, .int t_answer, .int t_thrown, .ref a_t_way, .int t_went, .int t_fell])), (a_t_now, .inl (y 0, 77, .inl (upd t_now (4 : Int32).toNatClampNeg ((t_now (4 : Int32).toNatClampNeg) ^^^ ((1 : Int32) <<< (p1 &&& 31))))))] H := hP
      have hD : va_D A [(a_t, .inr (12, [.ref a_t_now, .ref a_t_tried, .ref a_t_kept, .int t_undos, .ref a_t_saved, .int t_isSaved, .ref a_t_line, .int t_lined, .ref a_t_text, .int t_length, .int t_at, .int t_order, .ref a_t_told, .int t_fault, .int t_reason, .int t_detail, .int t_index, .int t_answer, .int t_thrown, .ref a_t_way, .int t_went, .int t_fell])), (a_t_now, .inl (y 0, 77, .inl (upd t_now (4 : Int32).toNatClampNeg ((t_now (4 : Int32).toNatClampNeg) ^^^ ((1 : Int32) <<< (p1 &&& 31))))))] := hD
      refine lv_aload_n hx hb dX8_puts_45 rfl (lv_at hl 0 rfl) ?_
      refine lv_aload_n hx hb dX8_puts_46 rfl (lv_at hl 0 rfl) ?_
      refine lv_iload_n hx hb dX8_puts_47 rfl (lv_at hl 1 rfl) ?_
      obtain ⟨r_48, hq_48, hF⟩ := bn_i hF
      refine cr_V (As := [.int p1]) (rest := [.ref a_t]) ⟨hx, hb, hml, hown, hts⟩ (c_X8_sizeOf l D y fl a_t a_t_now a_t_tried a_t_kept a_t_saved a_t_line a_t_text a_t_told a_t_way t_undos t_isSaved t_lined t_length t_at t_order t_fault t_reason t_detail t_index t_answer t_thrown t_went t_fell (upd t_now (4 : Int32).toNatClampNeg ((t_now (4 : Int32).toNatClampNeg) ^^^ ((1 : Int32) <<< (p1 &&& 31)))) p1 r_48 hq_48) (cwV 1 hts gX8_puts_X8_sizeOf rfl rfl rfl (by decide +kernel) ⟨Nat.le_of_ble_eq_true rfl, Nat.le_of_ble_eq_true rfl⟩) hK hP [0, 1] rfl rfl rfl rfl hl.1 rfl (Nat.le_of_ble_eq_true rfl) dX8_puts_48 ⟨Nat.le_of_ble_eq_true rfl, Nat.le_of_ble_eq_true rfl⟩ ?_
      obtain ⟨r_51, t_answer_51, hq_51, hF⟩ := bn2_i hF
      refine cm_Vi (As := [.int r_48]) (rest := []) (wr := [(a_t_now, .inl (y 0, 77, .inl (upd t_now (4 : Int32).toNatClampNeg ((t_now (4 : Int32).toNatClampNeg) ^^^ ((1 : Int32) <<< (p1 &&& 31))))))]) ⟨hx, hb, hml, hown, hts⟩ (c_X8_does l D y fl H.size a_t a_t_now a_t_tried a_t_kept a_t_saved a_t_line a_t_text a_t_told a_t_way t_undos t_isSaved t_lined t_length t_at t_order t_fault t_reason t_detail t_index t_answer t_thrown t_went t_fell r_48 r_51 t_answer_51 hq_51) (cwV 1 hts gX8_puts_X8_does rfl rfl rfl (by decide +kernel) ⟨Nat.le_of_ble_eq_true rfl, Nat.le_of_ble_eq_true rfl⟩) hK hP hD hS hA [0] [1] rfl rfl rfl rfl (by decide) rfl rfl rfl hl.1 rfl (Nat.le_of_ble_eq_true rfl) dX8_puts_51 ⟨Nat.le_of_ble_eq_true rfl, Nat.le_of_ble_eq_true rfl⟩ (fun H locs hP hD hS => ?_)
      have hP : va_P D vwCl [(a_t_now, .inl (y 0, 77, .inl (upd t_now (4 : Int32).toNatClampNeg ((t_now (4 : Int32).toNatClampNeg) ^^^ ((1 : Int32) <<< (p1 &&& 31)))))), (a_t, .inr (12, [.ref a_t_now, .ref a_t_tried, .ref a_t_kept, .int t_undos, .ref a_t_saved, .int t_isSaved, .ref a_t_line, .int t_lined, .ref a_t_text, .int t_length, .int t_at, .int t_order, .ref a_t_told, .int t_fault, .int t_reason, .int t_detail, .int t_index, .int t_answer_51, .int t_thrown, .ref a_t_way, .int t_went, .int t_fell]))] H := hP
      have hD : va_D A [(a_t_now, .inl (y 0, 77, .inl (upd t_now (4 : Int32).toNatClampNeg ((t_now (4 : Int32).toNatClampNeg) ^^^ ((1 : Int32) <<< (p1 &&& 31)))))), (a_t, .inr (12, [.ref a_t_now, .ref a_t_tried, .ref a_t_kept, .int t_undos, .ref a_t_saved, .int t_isSaved, .ref a_t_line, .int t_lined, .ref a_t_text, .int t_length, .int t_at, .int t_order, .ref a_t_told, .int t_fault, .int t_reason, .int t_detail, .int t_index, .int t_answer_51, .int t_thrown, .ref a_t_way, .int t_went, .int t_fell]))] := hD
      obtain ⟨g_54, hF⟩ := gd_i hF
      obtain ⟨e0_54, e1_54, e2_54, e3_54, e4_54, e5_54⟩ := inj6 hF
      rw [← e0_54, ← e1_54, ← e2_54, ← e3_54, ← e4_54, ← e5_54] at hQ0
      rw [hQ0]
      exact ret_z hx hb hr (okB_n g_54).1 hlocks hAe hK hP hD hS [1, 0] rfl rfl dX8_puts_54
    · have hF := ift hF c_22
      refine lv_aload_n hx hb dX8_puts_25 rfl (lv_at hl 0 rfl) ?_
      refine lv_bipush (v := 6) hx hb dX8_puts_26 (by decide) ?_
      refine lv_iload_n hx hb dX8_puts_28 rfl (lv_at hl 1 rfl) ?_
      obtain ⟨r_29, t_reason_29, t_detail_29, t_index_29, hq_29, hF⟩ := bn4_i hF
      refine cm_Vi (As := [.int (6 : Int32), .int p1]) (rest := []) (wr := [(a_t_now, .inl (y 0, 77, .inl t_now))]) ⟨hx, hb, hml, hown, hts⟩ (c_X8_refuses l D y fl s.heap.size a_t a_t_now a_t_tried a_t_kept a_t_saved a_t_line a_t_text a_t_told a_t_way t_undos t_isSaved t_lined t_length t_at t_order t_fault t_reason t_detail t_index t_answer t_thrown t_went t_fell (6 : Int32) p1 r_29 t_reason_29 t_detail_29 t_index_29 hq_29) (cwV 2 hts gX8_puts_X8_refuses rfl rfl rfl (by decide +kernel) ⟨Nat.le_of_ble_eq_true rfl, Nat.le_of_ble_eq_true rfl⟩) hK hP hD hS hA [0] [1] rfl rfl rfl rfl (by decide) rfl rfl rfl hl.1 rfl (Nat.le_of_ble_eq_true rfl) dX8_puts_29 ⟨Nat.le_of_ble_eq_true rfl, Nat.le_of_ble_eq_true rfl⟩ (fun H locs hP hD hS => ?_)
      have hP : va_P D vwCl [(a_t_now, .inl (y 0, 77, .inl t_now)), (a_t, .inr (12, [.ref a_t_now, .ref a_t_tried, .ref a_t_kept, .int t_undos, .ref a_t_saved, .int t_isSaved, .ref a_t_line, .int t_lined, .ref a_t_text, .int t_length, .int t_at, .int t_order, .ref a_t_told, .int t_fault, .int t_reason_29, .int t_detail_29, .int t_index_29, .int t_answer, .int t_thrown, .ref a_t_way, .int t_went, .int t_fell]))] H := hP
      have hD : va_D A [(a_t_now, .inl (y 0, 77, .inl t_now)), (a_t, .inr (12, [.ref a_t_now, .ref a_t_tried, .ref a_t_kept, .int t_undos, .ref a_t_saved, .int t_isSaved, .ref a_t_line, .int t_lined, .ref a_t_text, .int t_length, .int t_at, .int t_order, .ref a_t_told, .int t_fault, .int t_reason_29, .int t_detail_29, .int t_index_29, .int t_answer, .int t_thrown, .ref a_t_way, .int t_went, .int t_fell]))] := hD
      obtain ⟨g_32, hF⟩ := gd_i hF
      obtain ⟨e0_32, e1_32, e2_32, e3_32, e4_32, e5_32⟩ := inj6 hF
      rw [← e0_32, ← e1_32, ← e2_32, ← e3_32, ← e4_32, ← e5_32] at hQ0
      rw [hQ0]
      exact ret_z hx hb hr (okB_n g_32).1 hlocks hAe hK hP hD hS [1, 0] rfl rfl dX8_puts_32
  · have hF := ift hF c_6
    refine lv_aload_n hx hb dX8_puts_9 rfl (lv_at hl 0 rfl) ?_
    refine lv_iconst (v := 1) hx hb dX8_puts_10 (by decide) ?_
    refine lv_iconst (v := 0) hx hb dX8_puts_11 (by decide) ?_
    obtain ⟨r_12, t_reason_12, t_detail_12, t_index_12, hq_12, hF⟩ := bn4_i hF
    refine cm_Vi (As := [.int (1 : Int32), .int (0 : Int32)]) (rest := []) (wr := [(a_t_now, .inl (y 0, 77, .inl t_now))]) ⟨hx, hb, hml, hown, hts⟩ (c_X8_refuses l D y fl s.heap.size a_t a_t_now a_t_tried a_t_kept a_t_saved a_t_line a_t_text a_t_told a_t_way t_undos t_isSaved t_lined t_length t_at t_order t_fault t_reason t_detail t_index t_answer t_thrown t_went t_fell (1 : Int32) (0 : Int32) r_12 t_reason_12 t_detail_12 t_index_12 hq_12) (cwV 2 hts gX8_puts_X8_refuses rfl rfl rfl (by decide +kernel) ⟨Nat.le_of_ble_eq_true rfl, Nat.le_of_ble_eq_true rfl⟩) hK hP hD hS hA [0] [1] rfl rfl rfl rfl (by decide) rfl rfl rfl hl.1 rfl (Nat.le_of_ble_eq_true rfl) dX8_puts_12 ⟨Nat.le_of_ble_eq_true rfl, Nat.le_of_ble_eq_true rfl⟩ (fun H locs hP hD hS => ?_)
    have hP : va_P D vwCl [(a_t_now, .inl (y 0, 77, .inl t_now)), (a_t, .inr (12, [.ref a_t_now, .ref a_t_tried, .ref a_t_kept, .int t_undos, .ref a_t_saved, .int t_isSaved, .ref a_t_line, .int t_lined, .ref a_t_text, .int t_length, .int t_at, .int t_order, .ref a_t_told, .int t_fault, .int t_reason_12, .int t_detail_12, .int t_index_12, .int t_answer, .int t_thrown, .ref a_t_way, .int t_went, .int t_fell]))] H := hP
    have hD : va_D A [(a_t_now, .inl (y 0, 77, .inl t_now)), (a_t, .inr (12, [.ref a_t_now, .ref a_t_tried, .ref a_t_kept, .int t_undos, .ref a_t_saved, .int t_isSaved, .ref a_t_line, .int t_lined, .ref a_t_text, .int t_length, .int t_at, .int t_order, .ref a_t_told, .int t_fault, .int t_reason_12, .int t_detail_12, .int t_index_12, .int t_answer, .int t_thrown, .ref a_t_way, .int t_went, .int t_fell]))] := hD
    obtain ⟨g_15, hF⟩ := gd_i hF
    obtain ⟨e0_15, e1_15, e2_15, e3_15, e4_15, e5_15⟩ := inj6 hF
    rw [← e0_15, ← e1_15, ← e2_15, ← e3_15, ← e4_15, ← e5_15] at hQ0
    rw [hQ0]
    exact ret_z hx hb hr (okB_n g_15).1 hlocks hAe hK hP hD hS [1, 0] rfl rfl dX8_puts_15
def F_X8_forget (fl : Nat) (t_undos : Int32) (t_reason : Int32) (t_detail : Int32) (t_index : Int32) (t_answer : Int32) (t_thrown : Int32) (t_now : Nat → Int32) (t_tried : Nat → Int32) (t_kept : Nat → Int32) (p1 : Int32) : Option (Int32 × Int32 × Int32 × Int32 × Int32 × Int32 × Int32 × (Nat → Int32) × (Nat → Int32) × (Nat → Int32)) := bn2 (F_X8_tries fl t_thrown t_now t_tried) fun t_thrown_1 t_tried_1 => bn6 (F_X8_puts fl t_reason t_detail t_index t_answer t_now p1 (1 : Int32)) fun r_8 t_reason_8 t_detail_8 t_index_8 t_answer_8 t_now_8 => bn4 (F_X8_ends fl t_undos t_answer_8 t_thrown_1 t_tried_1 t_kept r_8) fun r_11 t_undos_11 t_thrown_11 t_kept_11 => some (r_11, t_undos_11, t_reason_8, t_detail_8, t_index_8, t_answer_8, t_thrown_11, t_now_8, t_tried_1, t_kept_11)
set_option maxHeartbeats 4000000 in
set_option maxRecDepth 100000 in
theorem c_X8_forget (l : Launch) (D : va_G) (y : Nat → ClassId) (fl : Nat) (sz : Nat) (a_t : Nat) (a_t_now : Nat) (a_t_tried : Nat) (a_t_kept : Nat) (a_t_saved : Nat) (a_t_line : Nat) (a_t_text : Nat) (a_t_told : Nat) (a_t_way : Nat) (t_undos : Int32) (t_isSaved : Int32) (t_lined : Int32) (t_length : Int32) (t_at : Int32) (t_order : Int32) (t_fault : Int32) (t_reason : Int32) (t_detail : Int32) (t_index : Int32) (t_answer : Int32) (t_thrown : Int32) (t_went : Int32) (t_fell : Int32) (t_now : Nat → Int32) (t_tried : Nat → Int32) (t_kept : Nat → Int32) (p1 : Int32) (r : Int32) (t_undos' : Int32) (t_reason' : Int32) (t_detail' : Int32) (t_index' : Int32) (t_answer' : Int32) (t_thrown' : Int32) (t_now' : Nat → Int32) (t_tried' : Nat → Int32) (t_kept' : Nat → Int32) (hF : F_X8_forget fl t_undos t_reason t_detail t_index t_answer t_thrown t_now t_tried t_kept p1 = some (r, t_undos', t_reason', t_detail', t_index', t_answer', t_thrown', t_now', t_tried', t_kept')) : Met l yX8_forget wsX8_forget (rmq 3 66) (wrP D y [(a_t, .inr (12, [.ref a_t_now, .ref a_t_tried, .ref a_t_kept, .int t_undos, .ref a_t_saved, .int t_isSaved, .ref a_t_line, .int t_lined, .ref a_t_text, .int t_length, .int t_at, .int t_order, .ref a_t_told, .int t_fault, .int t_reason, .int t_detail, .int t_index, .int t_answer, .int t_thrown, .ref a_t_way, .int t_went, .int t_fell])), (a_t_now, .inl (y 0, 77, .inl t_now)), (a_t_tried, .inl (y 0, 77, .inl t_tried)), (a_t_kept, .inl (y 0, 616, .inl t_kept))] sz [.ref a_t, .int p1]) (wQi D y r [(a_t, .inr (12, [.ref a_t_now, .ref a_t_tried, .ref a_t_kept, .int t_undos', .ref a_t_saved, .int t_isSaved, .ref a_t_line, .int t_lined, .ref a_t_text, .int t_length, .int t_at, .int t_order, .ref a_t_told, .int t_fault, .int t_reason', .int t_detail', .int t_index', .int t_answer', .int t_thrown', .ref a_t_way, .int t_went, .int t_fell])), (a_t_now, .inl (y 0, 77, .inl t_now')), (a_t_tried, .inl (y 0, 77, .inl t_tried')), (a_t_kept, .inl (y 0, 616, .inl t_kept'))] [(a_t, .inr (12, [.ref a_t_now, .ref a_t_tried, .ref a_t_kept, .int t_undos, .ref a_t_saved, .int t_isSaved, .ref a_t_line, .int t_lined, .ref a_t_text, .int t_length, .int t_at, .int t_order, .ref a_t_told, .int t_fault, .int t_reason, .int t_detail, .int t_index, .int t_answer, .int t_thrown, .ref a_t_way, .int t_went, .int t_fell])), (a_t_now, .inl (y 0, 77, .inl t_now)), (a_t_tried, .inl (y 0, 77, .inl t_tried)), (a_t_kept, .inl (y 0, 616, .inl t_kept))] sz) 0 0 (va_A [(a_t, .inr (12, [.ref a_t_now, .ref a_t_tried, .ref a_t_kept, .int t_undos, .ref a_t_saved, .int t_isSaved, .ref a_t_line, .int t_lined, .ref a_t_text, .int t_length, .int t_at, .int t_order, .ref a_t_told, .int t_fault, .int t_reason, .int t_detail, .int t_index, .int t_answer, .int t_thrown, .ref a_t_way, .int t_went, .int t_fell])), (a_t_now, .inl (y 0, 77, .inl t_now)), (a_t_tried, .inl (y 0, 77, .inl t_tried)), (a_t_kept, .inl (y 0, 616, .inl t_kept))] sz) := by
  refine Met.ofW (cc := cX8_forget) (maxL := 2) (ret := (some .int)) (by decide) rfl ?_
  intro p e s m args below meth c s₁ B hml hv
  obtain ⟨hav, hsz, hP, hK, hD0⟩ := hv
  have hx := B.exec
  have hb := B.bytes
  have hr := B.returns
  have hts := atoms_spec (ws := wsX8_forget) B.pre
  have hown : s.vm.findClass RX8 = some m.cls := findClass_of_methodNamed B.named
  have hlocks := B.notSynchronized
  subst hsz
  have hD := hD0.self (sz := s.heap.size)
  obtain ⟨A, hAe⟩ : ∃ A : Nat → Prop, va_A [(a_t, .inr (12, [.ref a_t_now, .ref a_t_tried, .ref a_t_kept, .int t_undos, .ref a_t_saved, .int t_isSaved, .ref a_t_line, .int t_lined, .ref a_t_text, .int t_length, .int t_at, .int t_order, .ref a_t_told, .int t_fault, .int t_reason, .int t_detail, .int t_index, .int t_answer, .int t_thrown, .ref a_t_way, .int t_went, .int t_fell])), (a_t_now, .inl (y 0, 77, .inl t_now)), (a_t_tried, .inl (y 0, 77, .inl t_tried)), (a_t_kept, .inl (y 0, 616, .inl t_kept))] s.heap.size = A := ⟨_, rfl⟩
  rw [hAe] at hD
  have hA : ∀ q, s.heap.size ≤ q → A q := fun q h => by rw [← hAe]; exact Or.inr h
  have hS : va_S A s.heap s.heap [] := va_S.rf
  refine W_q (R1 := (rmq 3 66)) rfl (fun Q0 hQ0 => ?_)
  unfold F_X8_forget at hF
  refine W_entry hav (Nat.le_of_ble_eq_true rfl) (fun ls hl => ?_)
  have hl : lv_has ls 2 [(0, .ref a_t), (1, .int p1)] := hl
  refine lv_aload_n hx hb dX8_forget_0 rfl (lv_at hl 0 rfl) ?_
  obtain ⟨t_thrown_1, t_tried_1, hq_1, hF⟩ := bn2_i hF
  refine cm_Vv (As := []) (rest := []) (wr := [(a_t_kept, .inl (y 0, 616, .inl t_kept))]) ⟨hx, hb, hml, hown, hts⟩ (c_X8_tries l D y fl s.heap.size a_t a_t_now a_t_tried a_t_kept a_t_saved a_t_line a_t_text a_t_told a_t_way t_undos t_isSaved t_lined t_length t_at t_order t_fault t_reason t_detail t_index t_answer t_thrown t_went t_fell t_now t_tried t_thrown_1 t_tried_1 hq_1) (cwV 0 hts gX8_forget_X8_tries rfl rfl rfl (by decide +kernel) ⟨Nat.le_of_ble_eq_true rfl, Nat.le_of_ble_eq_true rfl⟩) hK hP hD hS hA [0, 1, 2] [3] rfl rfl rfl rfl (by decide) rfl rfl rfl hl.1 rfl (Nat.le_of_ble_eq_true rfl) dX8_forget_1 ⟨Nat.le_of_ble_eq_true rfl, Nat.le_of_ble_eq_true rfl⟩ (fun H locs hP hD hS => ?_)
  have hP : va_P D vwCl [(a_t_kept, .inl (y 0, 616, .inl t_kept)), (a_t, .inr (12, [.ref a_t_now, .ref a_t_tried, .ref a_t_kept, .int t_undos, .ref a_t_saved, .int t_isSaved, .ref a_t_line, .int t_lined, .ref a_t_text, .int t_length, .int t_at, .int t_order, .ref a_t_told, .int t_fault, .int t_reason, .int t_detail, .int t_index, .int t_answer, .int t_thrown_1, .ref a_t_way, .int t_went, .int t_fell])), (a_t_now, .inl (y 0, 77, .inl t_now)), (a_t_tried, .inl (y 0, 77, .inl t_tried_1))] H := hP
  have hD : va_D A [(a_t_kept, .inl (y 0, 616, .inl t_kept)), (a_t, .inr (12, [.ref a_t_now, .ref a_t_tried, .ref a_t_kept, .int t_undos, .ref a_t_saved, .int t_isSaved, .ref a_t_line, .int t_lined, .ref a_t_text, .int t_length, .int t_at, .int t_order, .ref a_t_told, .int t_fault, .int t_reason, .int t_detail, .int t_index, .int t_answer, .int t_thrown_1, .ref a_t_way, .int t_went, .int t_fell])), (a_t_now, .inl (y 0, 77, .inl t_now)), (a_t_tried, .inl (y 0, 77, .inl t_tried_1))] := hD
  refine lv_aload_n hx hb dX8_forget_4 rfl (lv_at hl 0 rfl) ?_
  refine lv_aload_n hx hb dX8_forget_5 rfl (lv_at hl 0 rfl) ?_
  refine lv_iload_n hx hb dX8_forget_6 rfl (lv_at hl 1 rfl) ?_
  refine lv_iconst (v := 1) hx hb dX8_forget_7 (by decide) ?_
  obtain ⟨r_8, t_reason_8, t_detail_8, t_index_8, t_answer_8, t_now_8, hq_8, hF⟩ := bn6_i hF
  refine cm_Vi (As := [.int p1, .int (1 : Int32)]) (rest := [.ref a_t]) (wr := [(a_t_kept, .inl (y 0, 616, .inl t_kept)), (a_t_tried, .inl (y 0, 77, .inl t_tried_1))]) ⟨hx, hb, hml, hown, hts⟩ (c_X8_puts l D y fl H.size a_t a_t_now a_t_tried a_t_kept a_t_saved a_t_line a_t_text a_t_told a_t_way t_undos t_isSaved t_lined t_length t_at t_order t_fault t_reason t_detail t_index t_answer t_thrown_1 t_went t_fell t_now p1 (1 : Int32) r_8 t_reason_8 t_detail_8 t_index_8 t_answer_8 t_now_8 hq_8) (cwV 2 hts gX8_forget_X8_puts rfl rfl rfl (by decide +kernel) ⟨Nat.le_of_ble_eq_true rfl, Nat.le_of_ble_eq_true rfl⟩) hK hP hD hS hA [1, 2] [0, 3] rfl rfl rfl rfl (by decide) rfl rfl rfl hl.1 rfl (Nat.le_of_ble_eq_true rfl) dX8_forget_8 ⟨Nat.le_of_ble_eq_true rfl, Nat.le_of_ble_eq_true rfl⟩ (fun H locs hP hD hS => ?_)
  have hP : va_P D vwCl [(a_t_kept, .inl (y 0, 616, .inl t_kept)), (a_t_tried, .inl (y 0, 77, .inl t_tried_1)), (a_t, .inr (12, [.ref a_t_now, .ref a_t_tried, .ref a_t_kept, .int t_undos, .ref a_t_saved, .int t_isSaved, .ref a_t_line, .int t_lined, .ref a_t_text, .int t_length, .int t_at, .int t_order, .ref a_t_told, .int t_fault, .int t_reason_8, .int t_detail_8, .int t_index_8, .int t_answer_8, .int t_thrown_1, .ref a_t_way, .int t_went, .int t_fell])), (a_t_now, .inl (y 0, 77, .inl t_now_8))] H := hP
  have hD : va_D A [(a_t_kept, .inl (y 0, 616, .inl t_kept)), (a_t_tried, .inl (y 0, 77, .inl t_tried_1)), (a_t, .inr (12, [.ref a_t_now, .ref a_t_tried, .ref a_t_kept, .int t_undos, .ref a_t_saved, .int t_isSaved, .ref a_t_line, .int t_lined, .ref a_t_text, .int t_length, .int t_at, .int t_order, .ref a_t_told, .int t_fault, .int t_reason_8, .int t_detail_8, .int t_index_8, .int t_answer_8, .int t_thrown_1, .ref a_t_way, .int t_went, .int t_fell])), (a_t_now, .inl (y 0, 77, .inl t_now_8))] := hD
  obtain ⟨r_11, t_undos_11, t_thrown_11, t_kept_11, hq_11, hF⟩ := bn4_i hF
  refine cm_Vi (As := [.int r_8]) (rest := []) (wr := [(a_t_now, .inl (y 0, 77, .inl t_now_8))]) ⟨hx, hb, hml, hown, hts⟩ (c_X8_ends l D y fl H.size a_t a_t_now a_t_tried a_t_kept a_t_saved a_t_line a_t_text a_t_told a_t_way t_undos t_isSaved t_lined t_length t_at t_order t_fault t_reason_8 t_detail_8 t_index_8 t_answer_8 t_thrown_1 t_went t_fell t_tried_1 t_kept r_8 r_11 t_undos_11 t_thrown_11 t_kept_11 hq_11) (cwV 1 hts gX8_forget_X8_ends rfl rfl rfl (by decide +kernel) ⟨Nat.le_of_ble_eq_true rfl, Nat.le_of_ble_eq_true rfl⟩) hK hP hD hS hA [2, 1, 0] [3] rfl rfl rfl rfl (by decide) rfl rfl rfl hl.1 rfl (Nat.le_of_ble_eq_true rfl) dX8_forget_11 ⟨Nat.le_of_ble_eq_true rfl, Nat.le_of_ble_eq_true rfl⟩ (fun H locs hP hD hS => ?_)
  have hP : va_P D vwCl [(a_t_now, .inl (y 0, 77, .inl t_now_8)), (a_t, .inr (12, [.ref a_t_now, .ref a_t_tried, .ref a_t_kept, .int t_undos_11, .ref a_t_saved, .int t_isSaved, .ref a_t_line, .int t_lined, .ref a_t_text, .int t_length, .int t_at, .int t_order, .ref a_t_told, .int t_fault, .int t_reason_8, .int t_detail_8, .int t_index_8, .int t_answer_8, .int t_thrown_11, .ref a_t_way, .int t_went, .int t_fell])), (a_t_tried, .inl (y 0, 77, .inl t_tried_1)), (a_t_kept, .inl (y 0, 616, .inl t_kept_11))] H := hP
  have hD : va_D A [(a_t_now, .inl (y 0, 77, .inl t_now_8)), (a_t, .inr (12, [.ref a_t_now, .ref a_t_tried, .ref a_t_kept, .int t_undos_11, .ref a_t_saved, .int t_isSaved, .ref a_t_line, .int t_lined, .ref a_t_text, .int t_length, .int t_at, .int t_order, .ref a_t_told, .int t_fault, .int t_reason_8, .int t_detail_8, .int t_index_8, .int t_answer_8, .int t_thrown_11, .ref a_t_way, .int t_went, .int t_fell])), (a_t_tried, .inl (y 0, 77, .inl t_tried_1)), (a_t_kept, .inl (y 0, 616, .inl t_kept_11))] := hD
  obtain ⟨e0_14, e1_14, e2_14, e3_14, e4_14, e5_14, e6_14, e7_14, e8_14, e9_14⟩ := inj10 hF
  rw [← e0_14, ← e1_14, ← e2_14, ← e3_14, ← e4_14, ← e5_14, ← e6_14, ← e7_14, ← e8_14, ← e9_14] at hQ0
  rw [hQ0]
  exact ret_i hx hb hr hlocks hAe hK hP hD hS [1, 0, 2, 3] rfl rfl dX8_forget_14
def F_X8_recall (fl : Nat) (t_undos : Int32) (t_reason : Int32) (t_detail : Int32) (t_index : Int32) (t_answer : Int32) (t_thrown : Int32) (t_now : Nat → Int32) (t_tried : Nat → Int32) (t_kept : Nat → Int32) (p1 : Int32) : Option (Int32 × Int32 × Int32 × Int32 × Int32 × Int32 × Int32 × (Nat → Int32) × (Nat → Int32) × (Nat → Int32)) := bn2 (F_X8_tries fl t_thrown t_now t_tried) fun t_thrown_1 t_tried_1 => bn6 (F_X8_puts fl t_reason t_detail t_index t_answer t_now p1 (0 : Int32)) fun r_8 t_reason_8 t_detail_8 t_index_8 t_answer_8 t_now_8 => bn4 (F_X8_ends fl t_undos t_answer_8 t_thrown_1 t_tried_1 t_kept r_8) fun r_11 t_undos_11 t_thrown_11 t_kept_11 => some (r_11, t_undos_11, t_reason_8, t_detail_8, t_index_8, t_answer_8, t_thrown_11, t_now_8, t_tried_1, t_kept_11)
set_option maxHeartbeats 4000000 in
set_option maxRecDepth 100000 in
theorem c_X8_recall (l : Launch) (D : va_G) (y : Nat → ClassId) (fl : Nat) (sz : Nat) (a_t : Nat) (a_t_now : Nat) (a_t_tried : Nat) (a_t_kept : Nat) (a_t_saved : Nat) (a_t_line : Nat) (a_t_text : Nat) (a_t_told : Nat) (a_t_way : Nat) (t_undos : Int32) (t_isSaved : Int32) (t_lined : Int32) (t_length : Int32) (t_at : Int32) (t_order : Int32) (t_fault : Int32) (t_reason : Int32) (t_detail : Int32) (t_index : Int32) (t_answer : Int32) (t_thrown : Int32) (t_went : Int32) (t_fell : Int32) (t_now : Nat → Int32) (t_tried : Nat → Int32) (t_kept : Nat → Int32) (p1 : Int32) (r : Int32) (t_undos' : Int32) (t_reason' : Int32) (t_detail' : Int32) (t_index' : Int32) (t_answer' : Int32) (t_thrown' : Int32) (t_now' : Nat → Int32) (t_tried' : Nat → Int32) (t_kept' : Nat → Int32) (hF : F_X8_recall fl t_undos t_reason t_detail t_index t_answer t_thrown t_now t_tried t_kept p1 = some (r, t_undos', t_reason', t_detail', t_index', t_answer', t_thrown', t_now', t_tried', t_kept')) : Met l yX8_recall wsX8_recall (rmq 3 66) (wrP D y [(a_t, .inr (12, [.ref a_t_now, .ref a_t_tried, .ref a_t_kept, .int t_undos, .ref a_t_saved, .int t_isSaved, .ref a_t_line, .int t_lined, .ref a_t_text, .int t_length, .int t_at, .int t_order, .ref a_t_told, .int t_fault, .int t_reason, .int t_detail, .int t_index, .int t_answer, .int t_thrown, .ref a_t_way, .int t_went, .int t_fell])), (a_t_now, .inl (y 0, 77, .inl t_now)), (a_t_tried, .inl (y 0, 77, .inl t_tried)), (a_t_kept, .inl (y 0, 616, .inl t_kept))] sz [.ref a_t, .int p1]) (wQi D y r [(a_t, .inr (12, [.ref a_t_now, .ref a_t_tried, .ref a_t_kept, .int t_undos', .ref a_t_saved, .int t_isSaved, .ref a_t_line, .int t_lined, .ref a_t_text, .int t_length, .int t_at, .int t_order, .ref a_t_told, .int t_fault, .int t_reason', .int t_detail', .int t_index', .int t_answer', .int t_thrown', .ref a_t_way, .int t_went, .int t_fell])), (a_t_now, .inl (y 0, 77, .inl t_now')), (a_t_tried, .inl (y 0, 77, .inl t_tried')), (a_t_kept, .inl (y 0, 616, .inl t_kept'))] [(a_t, .inr (12, [.ref a_t_now, .ref a_t_tried, .ref a_t_kept, .int t_undos, .ref a_t_saved, .int t_isSaved, .ref a_t_line, .int t_lined, .ref a_t_text, .int t_length, .int t_at, .int t_order, .ref a_t_told, .int t_fault, .int t_reason, .int t_detail, .int t_index, .int t_answer, .int t_thrown, .ref a_t_way, .int t_went, .int t_fell])), (a_t_now, .inl (y 0, 77, .inl t_now)), (a_t_tried, .inl (y 0, 77, .inl t_tried)), (a_t_kept, .inl (y 0, 616, .inl t_kept))] sz) 0 0 (va_A [(a_t, .inr (12, [.ref a_t_now, .ref a_t_tried, .ref a_t_kept, .int t_undos, .ref a_t_saved, .int t_isSaved, .ref a_t_line, .int t_lined, .ref a_t_text, .int t_length, .int t_at, .int t_order, .ref a_t_told, .int t_fault, .int t_reason, .int t_detail, .int t_index, .int t_answer, .int t_thrown, .ref a_t_way, .int t_went, .int t_fell])), (a_t_now, .inl (y 0, 77, .inl t_now)), (a_t_tried, .inl (y 0, 77, .inl t_tried)), (a_t_kept, .inl (y 0, 616, .inl t_kept))] sz) := by
  refine Met.ofW (cc := cX8_recall) (maxL := 2) (ret := (some .int)) (by decide) rfl ?_
  intro p e s m args below meth c s₁ B hml hv
  obtain ⟨hav, hsz, hP, hK, hD0⟩ := hv
  have hx := B.exec
  have hb := B.bytes
  have hr := B.returns
  have hts := atoms_spec (ws := wsX8_recall) B.pre
  have hown : s.vm.findClass RX8 = some m.cls := findClass_of_methodNamed B.named
  have hlocks := B.notSynchronized
  subst hsz
  have hD := hD0.self (sz := s.heap.size)
  obtain ⟨A, hAe⟩ : ∃ A : Nat → Prop, va_A [(a_t, .inr (12, [.ref a_t_now, .ref a_t_tried, .ref a_t_kept, .int t_undos, .ref a_t_saved, .int t_isSaved, .ref a_t_line, .int t_lined, .ref a_t_text, .int t_length, .int t_at, .int t_order, .ref a_t_told, .int t_fault, .int t_reason, .int t_detail, .int t_index, .int t_answer, .int t_thrown, .ref a_t_way, .int t_went, .int t_fell])), (a_t_now, .inl (y 0, 77, .inl t_now)), (a_t_tried, .inl (y 0, 77, .inl t_tried)), (a_t_kept, .inl (y 0, 616, .inl t_kept))] s.heap.size = A := ⟨_, rfl⟩
  rw [hAe] at hD
  have hA : ∀ q, s.heap.size ≤ q → A q := fun q h => by rw [← hAe]; exact Or.inr h
  have hS : va_S A s.heap s.heap [] := va_S.rf
  refine W_q (R1 := (rmq 3 66)) rfl (fun Q0 hQ0 => ?_)
  unfold F_X8_recall at hF
  refine W_entry hav (Nat.le_of_ble_eq_true rfl) (fun ls hl => ?_)
  have hl : lv_has ls 2 [(0, .ref a_t), (1, .int p1)] := hl
  refine lv_aload_n hx hb dX8_recall_0 rfl (lv_at hl 0 rfl) ?_
  obtain ⟨t_thrown_1, t_tried_1, hq_1, hF⟩ := bn2_i hF
  refine cm_Vv (As := []) (rest := []) (wr := [(a_t_kept, .inl (y 0, 616, .inl t_kept))]) ⟨hx, hb, hml, hown, hts⟩ (c_X8_tries l D y fl s.heap.size a_t a_t_now a_t_tried a_t_kept a_t_saved a_t_line a_t_text a_t_told a_t_way t_undos t_isSaved t_lined t_length t_at t_order t_fault t_reason t_detail t_index t_answer t_thrown t_went t_fell t_now t_tried t_thrown_1 t_tried_1 hq_1) (cwV 0 hts gX8_recall_X8_tries rfl rfl rfl (by decide +kernel) ⟨Nat.le_of_ble_eq_true rfl, Nat.le_of_ble_eq_true rfl⟩) hK hP hD hS hA [0, 1, 2] [3] rfl rfl rfl rfl (by decide) rfl rfl rfl hl.1 rfl (Nat.le_of_ble_eq_true rfl) dX8_recall_1 ⟨Nat.le_of_ble_eq_true rfl, Nat.le_of_ble_eq_true rfl⟩ (fun H locs hP hD hS => ?_)
  have hP : va_P D vwCl [(a_t_kept, .inl (y 0, 616, .inl t_kept)), (a_t, .inr (12, [.ref a_t_now, .ref a_t_tried, .ref a_t_kept, .int t_undos, .ref a_t_saved, .int t_isSaved, .ref a_t_line, .int t_lined, .ref a_t_text, .int t_length, .int t_at, .int t_order, .ref a_t_told, .int t_fault, .int t_reason, .int t_detail, .int t_index, .int t_answer, .int t_thrown_1, .ref a_t_way, .int t_went, .int t_fell])), (a_t_now, .inl (y 0, 77, .inl t_now)), (a_t_tried, .inl (y 0, 77, .inl t_tried_1))] H := hP
  have hD : va_D A [(a_t_kept, .inl (y 0, 616, .inl t_kept)), (a_t, .inr (12, [.ref a_t_now, .ref a_t_tried, .ref a_t_kept, .int t_undos, .ref a_t_saved, .int t_isSaved, .ref a_t_line, .int t_lined, .ref a_t_text, .int t_length, .int t_at, .int t_order, .ref a_t_told, .int t_fault, .int t_reason, .int t_detail, .int t_index, .int t_answer, .int t_thrown_1, .ref a_t_way, .int t_went, .int t_fell])), (a_t_now, .inl (y 0, 77, .inl t_now)), (a_t_tried, .inl (y 0, 77, .inl t_tried_1))] := hD
  refine lv_aload_n hx hb dX8_recall_4 rfl (lv_at hl 0 rfl) ?_
  refine lv_aload_n hx hb dX8_recall_5 rfl (lv_at hl 0 rfl) ?_
  refine lv_iload_n hx hb dX8_recall_6 rfl (lv_at hl 1 rfl) ?_
  refine lv_iconst (v := 0) hx hb dX8_recall_7 (by decide) ?_
  obtain ⟨r_8, t_reason_8, t_detail_8, t_index_8, t_answer_8, t_now_8, hq_8, hF⟩ := bn6_i hF
  refine cm_Vi (As := [.int p1, .int (0 : Int32)]) (rest := [.ref a_t]) (wr := [(a_t_kept, .inl (y 0, 616, .inl t_kept)), (a_t_tried, .inl (y 0, 77, .inl t_tried_1))]) ⟨hx, hb, hml, hown, hts⟩ (c_X8_puts l D y fl H.size a_t a_t_now a_t_tried a_t_kept a_t_saved a_t_line a_t_text a_t_told a_t_way t_undos t_isSaved t_lined t_length t_at t_order t_fault t_reason t_detail t_index t_answer t_thrown_1 t_went t_fell t_now p1 (0 : Int32) r_8 t_reason_8 t_detail_8 t_index_8 t_answer_8 t_now_8 hq_8) (cwV 2 hts gX8_recall_X8_puts rfl rfl rfl (by decide +kernel) ⟨Nat.le_of_ble_eq_true rfl, Nat.le_of_ble_eq_true rfl⟩) hK hP hD hS hA [1, 2] [0, 3] rfl rfl rfl rfl (by decide) rfl rfl rfl hl.1 rfl (Nat.le_of_ble_eq_true rfl) dX8_recall_8 ⟨Nat.le_of_ble_eq_true rfl, Nat.le_of_ble_eq_true rfl⟩ (fun H locs hP hD hS => ?_)
  have hP : va_P D vwCl [(a_t_kept, .inl (y 0, 616, .inl t_kept)), (a_t_tried, .inl (y 0, 77, .inl t_tried_1)), (a_t, .inr (12, [.ref a_t_now, .ref a_t_tried, .ref a_t_kept, .int t_undos, .ref a_t_saved, .int t_isSaved, .ref a_t_line, .int t_lined, .ref a_t_text, .int t_length, .int t_at, .int t_order, .ref a_t_told, .int t_fault, .int t_reason_8, .int t_detail_8, .int t_index_8, .int t_answer_8, .int t_thrown_1, .ref a_t_way, .int t_went, .int t_fell])), (a_t_now, .inl (y 0, 77, .inl t_now_8))] H := hP
  have hD : va_D A [(a_t_kept, .inl (y 0, 616, .inl t_kept)), (a_t_tried, .inl (y 0, 77, .inl t_tried_1)), (a_t, .inr (12, [.ref a_t_now, .ref a_t_tried, .ref a_t_kept, .int t_undos, .ref a_t_saved, .int t_isSaved, .ref a_t_line, .int t_lined, .ref a_t_text, .int t_length, .int t_at, .int t_order, .ref a_t_told, .int t_fault, .int t_reason_8, .int t_detail_8, .int t_index_8, .int t_answer_8, .int t_thrown_1, .ref a_t_way, .int t_went, .int t_fell])), (a_t_now, .inl (y 0, 77, .inl t_now_8))] := hD
  obtain ⟨r_11, t_undos_11, t_thrown_11, t_kept_11, hq_11, hF⟩ := bn4_i hF
  refine cm_Vi (As := [.int r_8]) (rest := []) (wr := [(a_t_now, .inl (y 0, 77, .inl t_now_8))]) ⟨hx, hb, hml, hown, hts⟩ (c_X8_ends l D y fl H.size a_t a_t_now a_t_tried a_t_kept a_t_saved a_t_line a_t_text a_t_told a_t_way t_undos t_isSaved t_lined t_length t_at t_order t_fault t_reason_8 t_detail_8 t_index_8 t_answer_8 t_thrown_1 t_went t_fell t_tried_1 t_kept r_8 r_11 t_undos_11 t_thrown_11 t_kept_11 hq_11) (cwV 1 hts gX8_recall_X8_ends rfl rfl rfl (by decide +kernel) ⟨Nat.le_of_ble_eq_true rfl, Nat.le_of_ble_eq_true rfl⟩) hK hP hD hS hA [2, 1, 0] [3] rfl rfl rfl rfl (by decide) rfl rfl rfl hl.1 rfl (Nat.le_of_ble_eq_true rfl) dX8_recall_11 ⟨Nat.le_of_ble_eq_true rfl, Nat.le_of_ble_eq_true rfl⟩ (fun H locs hP hD hS => ?_)
  have hP : va_P D vwCl [(a_t_now, .inl (y 0, 77, .inl t_now_8)), (a_t, .inr (12, [.ref a_t_now, .ref a_t_tried, .ref a_t_kept, .int t_undos_11, .ref a_t_saved, .int t_isSaved, .ref a_t_line, .int t_lined, .ref a_t_text, .int t_length, .int t_at, .int t_order, .ref a_t_told, .int t_fault, .int t_reason_8, .int t_detail_8, .int t_index_8, .int t_answer_8, .int t_thrown_11, .ref a_t_way, .int t_went, .int t_fell])), (a_t_tried, .inl (y 0, 77, .inl t_tried_1)), (a_t_kept, .inl (y 0, 616, .inl t_kept_11))] H := hP
  have hD : va_D A [(a_t_now, .inl (y 0, 77, .inl t_now_8)), (a_t, .inr (12, [.ref a_t_now, .ref a_t_tried, .ref a_t_kept, .int t_undos_11, .ref a_t_saved, .int t_isSaved, .ref a_t_line, .int t_lined, .ref a_t_text, .int t_length, .int t_at, .int t_order, .ref a_t_told, .int t_fault, .int t_reason_8, .int t_detail_8, .int t_index_8, .int t_answer_8, .int t_thrown_11, .ref a_t_way, .int t_went, .int t_fell])), (a_t_tried, .inl (y 0, 77, .inl t_tried_1)), (a_t_kept, .inl (y 0, 616, .inl t_kept_11))] := hD
  obtain ⟨e0_14, e1_14, e2_14, e3_14, e4_14, e5_14, e6_14, e7_14, e8_14, e9_14⟩ := inj10 hF
  rw [← e0_14, ← e1_14, ← e2_14, ← e3_14, ← e4_14, ← e5_14, ← e6_14, ← e7_14, ← e8_14, ← e9_14] at hQ0
  rw [hQ0]
  exact ret_i hx hb hr hlocks hAe hK hP hD hS [1, 0, 2, 3] rfl rfl dX8_recall_14
def F_X8_weighs (fl : Nat) (t_reason : Int32) (t_detail : Int32) (t_index : Int32) (t_answer : Int32) (t_now : Nat → Int32) (p1 : Int32) (p2 : Int32) : Option (Int32 × Int32 × Int32 × Int32 × Int32 × (Nat → Int32)) := bn (F_X8_isKey fl p1) fun r_1 => if r_1 = 0 then (bn4 (F_X8_refuses fl t_reason t_detail t_index (1 : Int32) (0 : Int32)) fun r_17 t_reason_17 t_detail_17 t_index_17 => gd (okB r_17 = true) (some (r_17, t_reason_17, t_detail_17, t_index_17, t_answer, t_now))) else (bn (F_X8_isWeight fl p2) fun r_8 => if r_8 = 0 then (bn4 (F_X8_refuses fl t_reason t_detail t_index (1 : Int32) (0 : Int32)) fun r_17b t_reason_17b t_detail_17b t_index_17b => gd (okB r_17b = true) (some (r_17b, t_reason_17b, t_detail_17b, t_index_17b, t_answer, t_now))) else (bn4 (F_X8_isThere fl t_reason t_detail t_index t_now p1) fun r_23 t_reason_23 t_detail_23 t_index_23 => if r_23 = 0 then (some ((0 : Int32), t_reason_23, t_detail_23, t_index_23, t_answer, t_now)) else (bn (F_X8_find fl t_now p1) fun r_33 => bn (F_X8_weight fl t_now r_33) fun r_39 => if r_39 = p2 then (bn4 (F_X8_refuses fl t_reason_23 t_detail_23 t_index_23 (7 : Int32) p2) fun r_50 t_reason_50 t_detail_50 t_index_50 => gd (okB r_50 = true) (some (r_50, t_reason_50, t_detail_50, t_index_50, t_answer, t_now))) else (bn (F_X8_weight fl t_now r_33) fun r_56 => gi (((5 : Int32) + ((3 : Int32) * r_33)) + (1 : Int32)) 77 (bn2 (F_X8_does fl t_answer r_56) fun r_77 t_answer_77 => gd (okB r_77 = true) (some (r_77, t_reason_23, t_detail_23, t_index_23, t_answer_77, upd t_now (((5 : Int32) + ((3 : Int32) * r_33)) + (1 : Int32)).toNatClampNeg p2)))))))
theorem iX8_weighs_X8 : ∀ w ∈ u_ws RX8 TX8 22, w ∈ wsX8_weighs := fun w h => List.mem_cons_of_mem _ (List.mem_append_left _ (List.mem_append_right _ h))
set_option maxHeartbeats 4000000 in
set_option maxRecDepth 100000 in
theorem c_X8_weighs (l : Launch) (D : va_G) (y : Nat → ClassId) (fl : Nat) (sz : Nat) (a_t : Nat) (a_t_now : Nat) (a_t_tried : Nat) (a_t_kept : Nat) (a_t_saved : Nat) (a_t_line : Nat) (a_t_text : Nat) (a_t_told : Nat) (a_t_way : Nat) (t_undos : Int32) (t_isSaved : Int32) (t_lined : Int32) (t_length : Int32) (t_at : Int32) (t_order : Int32) (t_fault : Int32) (t_reason : Int32) (t_detail : Int32) (t_index : Int32) (t_answer : Int32) (t_thrown : Int32) (t_went : Int32) (t_fell : Int32) (t_now : Nat → Int32) (p1 : Int32) (p2 : Int32) (r : Int32) (t_reason' : Int32) (t_detail' : Int32) (t_index' : Int32) (t_answer' : Int32) (t_now' : Nat → Int32) (hF : F_X8_weighs fl t_reason t_detail t_index t_answer t_now p1 p2 = some (r, t_reason', t_detail', t_index', t_answer', t_now')) : Met l yX8_weighs wsX8_weighs (rmq 4 87) (wrP D y [(a_t, .inr (12, [.ref a_t_now, .ref a_t_tried, .ref a_t_kept, .int t_undos, .ref a_t_saved, .int t_isSaved, .ref a_t_line, .int t_lined, .ref a_t_text, .int t_length, .int t_at, .int t_order, .ref a_t_told, .int t_fault, .int t_reason, .int t_detail, .int t_index, .int t_answer, .int t_thrown, .ref a_t_way, .int t_went, .int t_fell])), (a_t_now, .inl (y 0, 77, .inl t_now))] sz [.ref a_t, .int p1, .int p2]) (wQi D y r [(a_t, .inr (12, [.ref a_t_now, .ref a_t_tried, .ref a_t_kept, .int t_undos, .ref a_t_saved, .int t_isSaved, .ref a_t_line, .int t_lined, .ref a_t_text, .int t_length, .int t_at, .int t_order, .ref a_t_told, .int t_fault, .int t_reason', .int t_detail', .int t_index', .int t_answer', .int t_thrown, .ref a_t_way, .int t_went, .int t_fell])), (a_t_now, .inl (y 0, 77, .inl t_now'))] [(a_t, .inr (12, [.ref a_t_now, .ref a_t_tried, .ref a_t_kept, .int t_undos, .ref a_t_saved, .int t_isSaved, .ref a_t_line, .int t_lined, .ref a_t_text, .int t_length, .int t_at, .int t_order, .ref a_t_told, .int t_fault, .int t_reason, .int t_detail, .int t_index, .int t_answer, .int t_thrown, .ref a_t_way, .int t_went, .int t_fell])), (a_t_now, .inl (y 0, 77, .inl t_now))] sz) 0 0 (va_A [(a_t, .inr (12, [.ref a_t_now, .ref a_t_tried, .ref a_t_kept, .int t_undos, .ref a_t_saved, .int t_isSaved, .ref a_t_line, .int t_lined, .ref a_t_text, .int t_length, .int t_at, .int t_order, .ref a_t_told, .int t_fault, .int t_reason, .int t_detail, .int t_index, .int t_answer, .int t_thrown, .ref a_t_way, .int t_went, .int t_fell])), (a_t_now, .inl (y 0, 77, .inl t_now))] sz) := by
  refine Met.ofW (cc := cX8_weighs) (maxL := 5) (ret := (some .boolean)) (by decide) rfl ?_
  intro p e s m args below meth c s₁ B hml hv
  obtain ⟨hav, hsz, hP, hK, hD0⟩ := hv
  have hx := B.exec
  have hb := B.bytes
  have hr := B.returns
  have hts := atoms_spec (ws := wsX8_weighs) B.pre
  have hown : s.vm.findClass RX8 = some m.cls := findClass_of_methodNamed B.named
  have hlocks := B.notSynchronized
  subst hsz
  have hD := hD0.self (sz := s.heap.size)
  obtain ⟨A, hAe⟩ : ∃ A : Nat → Prop, va_A [(a_t, .inr (12, [.ref a_t_now, .ref a_t_tried, .ref a_t_kept, .int t_undos, .ref a_t_saved, .int t_isSaved, .ref a_t_line, .int t_lined, .ref a_t_text, .int t_length, .int t_at, .int t_order, .ref a_t_told, .int t_fault, .int t_reason, .int t_detail, .int t_index, .int t_answer, .int t_thrown, .ref a_t_way, .int t_went, .int t_fell])), (a_t_now, .inl (y 0, 77, .inl t_now))] s.heap.size = A := ⟨_, rfl⟩
  rw [hAe] at hD
  have hA : ∀ q, s.heap.size ≤ q → A q := fun q h => by rw [← hAe]; exact Or.inr h
  have hS : va_S A s.heap s.heap [] := va_S.rf
  refine W_q (R1 := (rmq 4 87)) rfl (fun Q0 hQ0 => ?_)
  unfold F_X8_weighs at hF
  refine W_entry hav (Nat.le_of_ble_eq_true rfl) (fun ls hl => ?_)
  have hl : lv_has ls 5 [(0, .ref a_t), (1, .int p1), (2, .int p2)] := hl
  refine lv_iload_n hx hb dX8_weighs_0 rfl (lv_at hl 1 rfl) ?_
  obtain ⟨r_1, hq_1, hF⟩ := bn_i hF
  refine cr_S (As := [.int p1]) (rest := []) ⟨hx, hb, hml, hown, hts⟩ (c_X8_isKey l D y fl p1 r_1 hq_1) (va_cwS 1 hts gX8_weighs_X8_isKey rfl rfl rfl (by decide +kernel) ⟨Nat.le_of_ble_eq_true rfl, Nat.le_of_ble_eq_true rfl⟩) hK hP [] rfl rfl hl.1 rfl (Nat.le_of_ble_eq_true rfl) dX8_weighs_1 ⟨Nat.le_of_ble_eq_true rfl, Nat.le_of_ble_eq_true rfl⟩ ?_
  refine lv_if_eq (tgt := 14) hx hb dX8_weighs_4 (by decide) (fun c_4 => ?_) (fun c_4 => ?_)
  · have hF := ift hF c_4
    refine lv_aload_n hx hb dX8_weighs_14 rfl (lv_at hl 0 rfl) ?_
    refine lv_iconst (v := 1) hx hb dX8_weighs_15 (by decide) ?_
    refine lv_iconst (v := 0) hx hb dX8_weighs_16 (by decide) ?_
    obtain ⟨r_17, t_reason_17, t_detail_17, t_index_17, hq_17, hF⟩ := bn4_i hF
    refine cm_Vi (As := [.int (1 : Int32), .int (0 : Int32)]) (rest := []) (wr := [(a_t_now, .inl (y 0, 77, .inl t_now))]) ⟨hx, hb, hml, hown, hts⟩ (c_X8_refuses l D y fl s.heap.size a_t a_t_now a_t_tried a_t_kept a_t_saved a_t_line a_t_text a_t_told a_t_way t_undos t_isSaved t_lined t_length t_at t_order t_fault t_reason t_detail t_index t_answer t_thrown t_went t_fell (1 : Int32) (0 : Int32) r_17 t_reason_17 t_detail_17 t_index_17 hq_17) (cwV 2 hts gX8_weighs_X8_refuses rfl rfl rfl (by decide +kernel) ⟨Nat.le_of_ble_eq_true rfl, Nat.le_of_ble_eq_true rfl⟩) hK hP hD hS hA [0] [1] rfl rfl rfl rfl (by decide) rfl rfl rfl hl.1 rfl (Nat.le_of_ble_eq_true rfl) dX8_weighs_17 ⟨Nat.le_of_ble_eq_true rfl, Nat.le_of_ble_eq_true rfl⟩ (fun H locs hP hD hS => ?_)
    have hP : va_P D vwCl [(a_t_now, .inl (y 0, 77, .inl t_now)), (a_t, .inr (12, [.ref a_t_now, .ref a_t_tried, .ref a_t_kept, .int t_undos, .ref a_t_saved, .int t_isSaved, .ref a_t_line, .int t_lined, .ref a_t_text, .int t_length, .int t_at, .int t_order, .ref a_t_told, .int t_fault, .int t_reason_17, .int t_detail_17, .int t_index_17, .int t_answer, .int t_thrown, .ref a_t_way, .int t_went, .int t_fell]))] H := hP
    have hD : va_D A [(a_t_now, .inl (y 0, 77, .inl t_now)), (a_t, .inr (12, [.ref a_t_now, .ref a_t_tried, .ref a_t_kept, .int t_undos, .ref a_t_saved, .int t_isSaved, .ref a_t_line, .int t_lined, .ref a_t_text, .int t_length, .int t_at, .int t_order, .ref a_t_told, .int t_fault, .int t_reason_17, .int t_detail_17, .int t_index_17, .int t_answer, .int t_thrown, .ref a_t_way, .int t_went, .int t_fell]))] := hD
    obtain ⟨g_20, hF⟩ := gd_i hF
    obtain ⟨e0_20, e1_20, e2_20, e3_20, e4_20, e5_20⟩ := inj6 hF
    rw [← e0_20, ← e1_20, ← e2_20, ← e3_20, ← e4_20, ← e5_20] at hQ0
    rw [hQ0]
    exact ret_z hx hb hr (okB_n g_20).1 hlocks hAe hK hP hD hS [1, 0] rfl rfl dX8_weighs_20
  · have hF := iff_ hF c_4
    refine lv_iload_n hx hb dX8_weighs_7 rfl (lv_at hl 2 rfl) ?_
    obtain ⟨r_8, hq_8, hF⟩ := bn_i hF
    refine cr_S (As := [.int p2]) (rest := []) ⟨hx, hb, hml, hown, hts⟩ (c_X8_isWeight l D y fl p2 r_8 hq_8) (va_cwS 1 hts gX8_weighs_X8_isWeight rfl rfl rfl (by decide +kernel) ⟨Nat.le_of_ble_eq_true rfl, Nat.le_of_ble_eq_true rfl⟩) hK hP [] rfl rfl hl.1 rfl (Nat.le_of_ble_eq_true rfl) dX8_weighs_8 ⟨Nat.le_of_ble_eq_true rfl, Nat.le_of_ble_eq_true rfl⟩ ?_
    refine lv_if_ne (tgt := 21) hx hb dX8_weighs_11 (by decide) (fun c_11 => ?_) (fun c_11 => ?_)
    · have hF := iff_ hF c_11
      refine lv_aload_n hx hb dX8_weighs_21 rfl (lv_at hl 0 rfl) ?_
      refine lv_iload_n hx hb dX8_weighs_22 rfl (lv_at hl 1 rfl) ?_
      obtain ⟨r_23, t_reason_23, t_detail_23, t_index_23, hq_23, hF⟩ := bn4_i hF
      refine cm_Vi (As := [.int p1]) (rest := []) (wr := []) ⟨hx, hb, hml, hown, hts⟩ (c_X8_isThere l D y fl s.heap.size a_t a_t_now a_t_tried a_t_kept a_t_saved a_t_line a_t_text a_t_told a_t_way t_undos t_isSaved t_lined t_length t_at t_order t_fault t_reason t_detail t_index t_answer t_thrown t_went t_fell t_now p1 r_23 t_reason_23 t_detail_23 t_index_23 hq_23) (cwV 1 hts gX8_weighs_X8_isThere rfl rfl rfl (by decide +kernel) ⟨Nat.le_of_ble_eq_true rfl, Nat.le_of_ble_eq_true rfl⟩) hK hP hD hS hA [0, 1] [] rfl rfl rfl rfl (by decide) rfl rfl rfl hl.1 rfl (Nat.le_of_ble_eq_true rfl) dX8_weighs_23 ⟨Nat.le_of_ble_eq_true rfl, Nat.le_of_ble_eq_true rfl⟩ (fun H locs hP hD hS => ?_)
      have hP : va_P D vwCl [(a_t, .inr (12, [.ref a_t_now, .ref a_t_tried, .ref a_t_kept, .int t_undos, .ref a_t_saved, .int t_isSaved, .ref a_t_line, .int t_lined, .ref a_t_text, .int t_length, .int t_at, .int t_order, .ref a_t_told, .int t_fault, .int t_reason_23, .int t_detail_23, .int t_index_23, .int t_answer, .int t_thrown, .ref a_t_way, .int t_went, .int t_fell])), (a_t_now, .inl (y 0, 77, .inl t_now))] H := hP
      have hD : va_D A [(a_t, .inr (12, [.ref a_t_now, .ref a_t_tried, .ref a_t_kept, .int t_undos, .ref a_t_saved, .int t_isSaved, .ref a_t_line, .int t_lined, .ref a_t_text, .int t_length, .int t_at, .int t_order, .ref a_t_told, .int t_fault, .int t_reason_23, .int t_detail_23, .int t_index_23, .int t_answer, .int t_thrown, .ref a_t_way, .int t_went, .int t_fell])), (a_t_now, .inl (y 0, 77, .inl t_now))] := hD
      refine lv_if_ne (tgt := 31) hx hb dX8_weighs_26 (by decide) (fun c_26 => ?_) (fun c_26 => ?_)
      · have hF := iff_ hF c_26
        refine lv_aload_n hx hb dX8_weighs_31 rfl (lv_at hl 0 rfl) ?_
        refine lv_iload_n hx hb dX8_weighs_32 rfl (lv_at hl 1 rfl) ?_
        obtain ⟨r_33, hq_33, hF⟩ := bn_i hF
        refine cr_V (As := [.int p1]) (rest := []) ⟨hx, hb, hml, hown, hts⟩ (c_X8_find l D y fl a_t a_t_now a_t_tried a_t_kept a_t_saved a_t_line a_t_text a_t_told a_t_way t_undos t_isSaved t_lined t_length t_at t_order t_fault t_reason_23 t_detail_23 t_index_23 t_answer t_thrown t_went t_fell t_now p1 r_33 hq_33) (cwV 1 hts gX8_weighs_X8_find rfl rfl rfl (by decide +kernel) ⟨Nat.le_of_ble_eq_true rfl, Nat.le_of_ble_eq_true rfl⟩) hK hP [0, 1] rfl rfl rfl rfl hl.1 rfl (Nat.le_of_ble_eq_true rfl) dX8_weighs_33 ⟨Nat.le_of_ble_eq_true rfl, Nat.le_of_ble_eq_true rfl⟩ ?_
        refine lv_istore_n (lv' := [(3, .int r_33), (0, .ref a_t), (1, .int p1), (2, .int p2)]) hx hb dX8_weighs_36 rfl hl (by decide) rfl (fun ls hl => ?_)
        refine lv_aload_n hx hb dX8_weighs_37 rfl (lv_at hl 1 rfl) ?_
        refine lv_iload_n hx hb dX8_weighs_38 rfl (lv_at hl 0 rfl) ?_
        obtain ⟨r_39, hq_39, hF⟩ := bn_i hF
        refine cr_V (As := [.int r_33]) (rest := []) ⟨hx, hb, hml, hown, hts⟩ (c_X8_weight l D y fl a_t a_t_now a_t_tried a_t_kept a_t_saved a_t_line a_t_text a_t_told a_t_way t_undos t_isSaved t_lined t_length t_at t_order t_fault t_reason_23 t_detail_23 t_index_23 t_answer t_thrown t_went t_fell t_now r_33 r_39 hq_39) (cwV 1 hts gX8_weighs_X8_weight rfl rfl rfl (by decide +kernel) ⟨Nat.le_of_ble_eq_true rfl, Nat.le_of_ble_eq_true rfl⟩) hK hP [0, 1] rfl rfl rfl rfl hl.1 rfl (Nat.le_of_ble_eq_true rfl) dX8_weighs_39 ⟨Nat.le_of_ble_eq_true rfl, Nat.le_of_ble_eq_true rfl⟩ ?_
        refine lv_iload_n hx hb dX8_weighs_42 rfl (lv_at hl 3 rfl) ?_
        refine lv_icmp_ne (tgt := 54) hx hb dX8_weighs_43 (by decide) (fun c_43 => ?_) (fun c_43 => ?_)
        · have hF := iff_ hF c_43
          refine lv_aload_n hx hb dX8_weighs_54 rfl (lv_at hl 1 rfl) ?_
          refine lv_iload_n hx hb dX8_weighs_55 rfl (lv_at hl 0 rfl) ?_
          obtain ⟨r_56, hq_56, hF⟩ := bn_i hF
          refine cr_V (As := [.int r_33]) (rest := []) ⟨hx, hb, hml, hown, hts⟩ (c_X8_weight l D y fl a_t a_t_now a_t_tried a_t_kept a_t_saved a_t_line a_t_text a_t_told a_t_way t_undos t_isSaved t_lined t_length t_at t_order t_fault t_reason_23 t_detail_23 t_index_23 t_answer t_thrown t_went t_fell t_now r_33 r_56 hq_56) (cwV 1 hts gX8_weighs_X8_weight rfl rfl rfl (by decide +kernel) ⟨Nat.le_of_ble_eq_true rfl, Nat.le_of_ble_eq_true rfl⟩) hK hP [0, 1] rfl rfl rfl rfl hl.1 rfl (Nat.le_of_ble_eq_true rfl) dX8_weighs_56 ⟨Nat.le_of_ble_eq_true rfl, Nat.le_of_ble_eq_true rfl⟩ ?_
          refine lv_istore (lv' := [(4, .int r_56), (3, .int r_33), (0, .ref a_t), (1, .int p1), (2, .int p2)]) hx hb dX8_weighs_59 hl (by decide) rfl (fun ls hl => ?_)
          refine lv_aload_n hx hb dX8_weighs_61 rfl (lv_at hl 2 rfl) ?_
          refine va_get (D := D) (ci := 12) (v := .ref a_t_now) (C := RX8) (T := TX8) (N := 22) hx hb hts iX8_weighs_X8 hown hK hP 0 rfl rfl 0 (by decide) (hts (.fieldLink RX8 9 "SkipArchiveModel" "now" "[I") (List.mem_of_getElem? (i := 1) rfl)) (fun _ h9 => h9) rfl dX8_weighs_62 ?_
          refine lv_iconst (v := 5) hx hb dX8_weighs_65 (by decide) ?_
          refine lv_iconst (v := 3) hx hb dX8_weighs_66 (by decide) ?_
          refine lv_iload_n hx hb dX8_weighs_67 rfl (lv_at hl 1 rfl) ?_
          refine lv_imul hx hb dX8_weighs_68 ?_
          refine lv_iadd hx hb dX8_weighs_69 ?_
          refine lv_iconst (v := 1) hx hb dX8_weighs_70 (by decide) ?_
          refine lv_iadd hx hb dX8_weighs_71 ?_
          refine lv_iload_n hx hb dX8_weighs_72 rfl (lv_at hl 4 rfl) ?_
          obtain ⟨g_73, hF⟩ := gi_i hF
          refine va_iast hx hb hK hP hD hS 1 0 rfl rfl g_73 dX8_weighs_73 (fun H locs hP hD hS => ?_)
          have hP : va_P D vwCl [(a_t, .inr (12, [.ref a_t_now, .ref a_t_tried, .ref a_t_kept, .int t_undos, .ref a_t_saved, .int t_isSaved, .ref a_t_line, .int t_lined, .ref a_t_text, .int t_length, .int t_at, .int t_order, .ref a_t_told, .int t_fault, .int t_reason_23, .int t_detail_23, .int t_index_23, .int t_answer, .int t_thrown, .ref a_t_way, .int t_went, .int t_fell])), (a_t_now, .inl (y 0, 77, .inl (upd t_now (((5 : Int32) + ((3 : Int32) * r_33)) + (1 : Int32)).toNatClampNeg p2)))] H := hP
          have hD : va_D A [(a_t, .inr (12, [.ref a_t_now, .ref a_t_tried, .ref a_t_kept, .int t_undos, .ref a_t_saved, .int t_isSaved, .ref a_t_line, .int t_lined, .ref a_t_text, .int t_length, .int t_at, .int t_order, .ref a_t_told, .int t_fault, .int t_reason_23, .int t_detail_23, .int t_index_23, .int t_answer, .int t_thrown, .ref a_t_way, .int t_went, .int t_fell])), (a_t_now, .inl (y 0, 77, .inl (upd t_now (((5 : Int32) + ((3 : Int32) * r_33)) + (1 : Int32)).toNatClampNeg p2)))] := hD
          refine lv_aload_n hx hb dX8_weighs_74 rfl (lv_at hl 2 rfl) ?_
          refine lv_iload hx hb dX8_weighs_75 (lv_at hl 0 rfl) ?_
          obtain ⟨r_77, t_answer_77, hq_77, hF⟩ := bn2_i hF
          refine cm_Vi (As := [.int r_56]) (rest := []) (wr := [(a_t_now, .inl (y 0, 77, .inl (upd t_now (((5 : Int32) + ((3 : Int32) * r_33)) + (1 : Int32)).toNatClampNeg p2)))]) ⟨hx, hb, hml, hown, hts⟩ (c_X8_does l D y fl H.size a_t a_t_now a_t_tried a_t_kept a_t_saved a_t_line a_t_text a_t_told a_t_way t_undos t_isSaved t_lined t_length t_at t_order t_fault t_reason_23 t_detail_23 t_index_23 t_answer t_thrown t_went t_fell r_56 r_77 t_answer_77 hq_77) (cwV 1 hts gX8_weighs_X8_does rfl rfl rfl (by decide +kernel) ⟨Nat.le_of_ble_eq_true rfl, Nat.le_of_ble_eq_true rfl⟩) hK hP hD hS hA [0] [1] rfl rfl rfl rfl (by decide) rfl rfl rfl hl.1 rfl (Nat.le_of_ble_eq_true rfl) dX8_weighs_77 ⟨Nat.le_of_ble_eq_true rfl, Nat.le_of_ble_eq_true rfl⟩ (fun H locs hP hD hS => ?_)
          have hP : va_P D vwCl [(a_t_now, .inl (y 0, 77, .inl (upd t_now (((5 : Int32) + ((3 : Int32) * r_33)) + (1 : Int32)).toNatClampNeg p2))), (a_t, .inr (12, [.ref a_t_now, .ref a_t_tried, .ref a_t_kept, .int t_undos, .ref a_t_saved, .int t_isSaved, .ref a_t_line, .int t_lined, .ref a_t_text, .int t_length, .int t_at, .int t_order, .ref a_t_told, .int t_fault, .int t_reason_23, .int t_detail_23, .int t_index_23, .int t_answer_77, .int t_thrown, .ref a_t_way, .int t_went, .int t_fell]))] H := hP
          have hD : va_D A [(a_t_now, .inl (y 0, 77, .inl (upd t_now (((5 : Int32) + ((3 : Int32) * r_33)) + (1 : Int32)).toNatClampNeg p2))), (a_t, .inr (12, [.ref a_t_now, .ref a_t_tried, .ref a_t_kept, .int t_undos, .ref a_t_saved, .int t_isSaved, .ref a_t_line, .int t_lined, .ref a_t_text, .int t_length, .int t_at, .int t_order, .ref a_t_told, .int t_fault, .int t_reason_23, .int t_detail_23, .int t_index_23, .int t_answer_77, .int t_thrown, .ref a_t_way, .int t_went, .int t_fell]))] := hD
          obtain ⟨g_80, hF⟩ := gd_i hF
          obtain ⟨e0_80, e1_80, e2_80, e3_80, e4_80, e5_80⟩ := inj6 hF
          rw [← e0_80, ← e1_80, ← e2_80, ← e3_80, ← e4_80, ← e5_80] at hQ0
          rw [hQ0]
          exact ret_z hx hb hr (okB_n g_80).1 hlocks hAe hK hP hD hS [1, 0] rfl rfl dX8_weighs_80
        · have hF := ift hF c_43
          refine lv_aload_n hx hb dX8_weighs_46 rfl (lv_at hl 1 rfl) ?_
          refine lv_bipush (v := 7) hx hb dX8_weighs_47 (by decide) ?_
          refine lv_iload_n hx hb dX8_weighs_49 rfl (lv_at hl 3 rfl) ?_
          obtain ⟨r_50, t_reason_50, t_detail_50, t_index_50, hq_50, hF⟩ := bn4_i hF
          refine cm_Vi (As := [.int (7 : Int32), .int p2]) (rest := []) (wr := [(a_t_now, .inl (y 0, 77, .inl t_now))]) ⟨hx, hb, hml, hown, hts⟩ (c_X8_refuses l D y fl H.size a_t a_t_now a_t_tried a_t_kept a_t_saved a_t_line a_t_text a_t_told a_t_way t_undos t_isSaved t_lined t_length t_at t_order t_fault t_reason_23 t_detail_23 t_index_23 t_answer t_thrown t_went t_fell (7 : Int32) p2 r_50 t_reason_50 t_detail_50 t_index_50 hq_50) (cwV 2 hts gX8_weighs_X8_refuses rfl rfl rfl (by decide +kernel) ⟨Nat.le_of_ble_eq_true rfl, Nat.le_of_ble_eq_true rfl⟩) hK hP hD hS hA [0] [1] rfl rfl rfl rfl (by decide) rfl rfl rfl hl.1 rfl (Nat.le_of_ble_eq_true rfl) dX8_weighs_50 ⟨Nat.le_of_ble_eq_true rfl, Nat.le_of_ble_eq_true rfl⟩ (fun H locs hP hD hS => ?_)
          have hP : va_P D vwCl [(a_t_now, .inl (y 0, 77, .inl t_now)), (a_t, .inr (12, [.ref a_t_now, .ref a_t_tried, .ref a_t_kept, .int t_undos, .ref a_t_saved, .int t_isSaved, .ref a_t_line, .int t_lined, .ref a_t_text, .int t_length, .int t_at, .int t_order, .ref a_t_told, .int t_fault, .int t_reason_50, .int t_detail_50, .int t_index_50, .int t_answer, .int t_thrown, .ref a_t_way, .int t_went, .int t_fell]))] H := hP
          have hD : va_D A [(a_t_now, .inl (y 0, 77, .inl t_now)), (a_t, .inr (12, [.ref a_t_now, .ref a_t_tried, .ref a_t_kept, .int t_undos, .ref a_t_saved, .int t_isSaved, .ref a_t_line, .int t_lined, .ref a_t_text, .int t_length, .int t_at, .int t_order, .ref a_t_told, .int t_fault, .int t_reason_50, .int t_detail_50, .int t_index_50, .int t_answer, .int t_thrown, .ref a_t_way, .int t_went, .int t_fell]))] := hD
          obtain ⟨g_53, hF⟩ := gd_i hF
          obtain ⟨e0_53, e1_53, e2_53, e3_53, e4_53, e5_53⟩ := inj6 hF
          rw [← e0_53, ← e1_53, ← e2_53, ← e3_53, ← e4_53, ← e5_53] at hQ0
          rw [hQ0]
          exact ret_z hx hb hr (okB_n g_53).1 hlocks hAe hK hP hD hS [1, 0] rfl rfl dX8_weighs_53
      · have hF := ift hF c_26
        refine lv_iconst (v := 0) hx hb dX8_weighs_29 (by decide) ?_
        obtain ⟨e0_30, e1_30, e2_30, e3_30, e4_30, e5_30⟩ := inj6 hF
        rw [← e0_30, ← e1_30, ← e2_30, ← e3_30, ← e4_30, ← e5_30] at hQ0
        rw [hQ0]
        exact ret_z hx hb hr (by decide +kernel) hlocks hAe hK hP hD hS [0, 1] rfl rfl dX8_weighs_30
    · have hF := ift hF c_11
      refine lv_aload_n hx hb dX8_weighs_14 rfl (lv_at hl 0 rfl) ?_
      refine lv_iconst (v := 1) hx hb dX8_weighs_15 (by decide) ?_
      refine lv_iconst (v := 0) hx hb dX8_weighs_16 (by decide) ?_
      obtain ⟨r_17b, t_reason_17b, t_detail_17b, t_index_17b, hq_17b, hF⟩ := bn4_i hF
      refine cm_Vi (As := [.int (1 : Int32), .int (0 : Int32)]) (rest := []) (wr := [(a_t_now, .inl (y 0, 77, .inl t_now))]) ⟨hx, hb, hml, hown, hts⟩ (c_X8_refuses l D y fl s.heap.size a_t a_t_now a_t_tried a_t_kept a_t_saved a_t_line a_t_text a_t_told a_t_way t_undos t_isSaved t_lined t_length t_at t_order t_fault t_reason t_detail t_index t_answer t_thrown t_went t_fell (1 : Int32) (0 : Int32) r_17b t_reason_17b t_detail_17b t_index_17b hq_17b) (cwV 2 hts gX8_weighs_X8_refuses rfl rfl rfl (by decide +kernel) ⟨Nat.le_of_ble_eq_true rfl, Nat.le_of_ble_eq_true rfl⟩) hK hP hD hS hA [0] [1] rfl rfl rfl rfl (by decide) rfl rfl rfl hl.1 rfl (Nat.le_of_ble_eq_true rfl) dX8_weighs_17 ⟨Nat.le_of_ble_eq_true rfl, Nat.le_of_ble_eq_true rfl⟩ (fun H locs hP hD hS => ?_)
      have hP : va_P D vwCl [(a_t_now, .inl (y 0, 77, .inl t_now)), (a_t, .inr (12, [.ref a_t_now, .ref a_t_tried, .ref a_t_kept, .int t_undos, .ref a_t_saved, .int t_isSaved, .ref a_t_line, .int t_lined, .ref a_t_text, .int t_length, .int t_at, .int t_order, .ref a_t_told, .int t_fault, .int t_reason_17b, .int t_detail_17b, .int t_index_17b, .int t_answer, .int t_thrown, .ref a_t_way, .int t_went, .int t_fell]))] H := hP
      have hD : va_D A [(a_t_now, .inl (y 0, 77, .inl t_now)), (a_t, .inr (12, [.ref a_t_now, .ref a_t_tried, .ref a_t_kept, .int t_undos, .ref a_t_saved, .int t_isSaved, .ref a_t_line, .int t_lined, .ref a_t_text, .int t_length, .int t_at, .int t_order, .ref a_t_told, .int t_fault, .int t_reason_17b, .int t_detail_17b, .int t_index_17b, .int t_answer, .int t_thrown, .ref a_t_way, .int t_went, .int t_fell]))] := hD
      obtain ⟨g_20b, hF⟩ := gd_i hF
      obtain ⟨e0_20, e1_20, e2_20, e3_20, e4_20, e5_20⟩ := inj6 hF
      rw [← e0_20, ← e1_20, ← e2_20, ← e3_20, ← e4_20, ← e5_20] at hQ0
      rw [hQ0]
      exact ret_z hx hb hr (okB_n g_20b).1 hlocks hAe hK hP hD hS [1, 0] rfl rfl dX8_weighs_20
def F_X8_weigh (fl : Nat) (t_undos : Int32) (t_reason : Int32) (t_detail : Int32) (t_index : Int32) (t_answer : Int32) (t_thrown : Int32) (t_now : Nat → Int32) (t_tried : Nat → Int32) (t_kept : Nat → Int32) (p1 : Int32) (p2 : Int32) : Option (Int32 × Int32 × Int32 × Int32 × Int32 × Int32 × Int32 × (Nat → Int32) × (Nat → Int32) × (Nat → Int32)) := bn2 (F_X8_tries fl t_thrown t_now t_tried) fun t_thrown_1 t_tried_1 => bn6 (F_X8_weighs fl t_reason t_detail t_index t_answer t_now p1 p2) fun r_8 t_reason_8 t_detail_8 t_index_8 t_answer_8 t_now_8 => bn4 (F_X8_ends fl t_undos t_answer_8 t_thrown_1 t_tried_1 t_kept r_8) fun r_11 t_undos_11 t_thrown_11 t_kept_11 => some (r_11, t_undos_11, t_reason_8, t_detail_8, t_index_8, t_answer_8, t_thrown_11, t_now_8, t_tried_1, t_kept_11)
set_option maxHeartbeats 4000000 in
set_option maxRecDepth 100000 in
theorem c_X8_weigh (l : Launch) (D : va_G) (y : Nat → ClassId) (fl : Nat) (sz : Nat) (a_t : Nat) (a_t_now : Nat) (a_t_tried : Nat) (a_t_kept : Nat) (a_t_saved : Nat) (a_t_line : Nat) (a_t_text : Nat) (a_t_told : Nat) (a_t_way : Nat) (t_undos : Int32) (t_isSaved : Int32) (t_lined : Int32) (t_length : Int32) (t_at : Int32) (t_order : Int32) (t_fault : Int32) (t_reason : Int32) (t_detail : Int32) (t_index : Int32) (t_answer : Int32) (t_thrown : Int32) (t_went : Int32) (t_fell : Int32) (t_now : Nat → Int32) (t_tried : Nat → Int32) (t_kept : Nat → Int32) (p1 : Int32) (p2 : Int32) (r : Int32) (t_undos' : Int32) (t_reason' : Int32) (t_detail' : Int32) (t_index' : Int32) (t_answer' : Int32) (t_thrown' : Int32) (t_now' : Nat → Int32) (t_tried' : Nat → Int32) (t_kept' : Nat → Int32) (hF : F_X8_weigh fl t_undos t_reason t_detail t_index t_answer t_thrown t_now t_tried t_kept p1 p2 = some (r, t_undos', t_reason', t_detail', t_index', t_answer', t_thrown', t_now', t_tried', t_kept')) : Met l yX8_weigh wsX8_weigh (rmq 5 111) (wrP D y [(a_t, .inr (12, [.ref a_t_now, .ref a_t_tried, .ref a_t_kept, .int t_undos, .ref a_t_saved, .int t_isSaved, .ref a_t_line, .int t_lined, .ref a_t_text, .int t_length, .int t_at, .int t_order, .ref a_t_told, .int t_fault, .int t_reason, .int t_detail, .int t_index, .int t_answer, .int t_thrown, .ref a_t_way, .int t_went, .int t_fell])), (a_t_now, .inl (y 0, 77, .inl t_now)), (a_t_tried, .inl (y 0, 77, .inl t_tried)), (a_t_kept, .inl (y 0, 616, .inl t_kept))] sz [.ref a_t, .int p1, .int p2]) (wQi D y r [(a_t, .inr (12, [.ref a_t_now, .ref a_t_tried, .ref a_t_kept, .int t_undos', .ref a_t_saved, .int t_isSaved, .ref a_t_line, .int t_lined, .ref a_t_text, .int t_length, .int t_at, .int t_order, .ref a_t_told, .int t_fault, .int t_reason', .int t_detail', .int t_index', .int t_answer', .int t_thrown', .ref a_t_way, .int t_went, .int t_fell])), (a_t_now, .inl (y 0, 77, .inl t_now')), (a_t_tried, .inl (y 0, 77, .inl t_tried')), (a_t_kept, .inl (y 0, 616, .inl t_kept'))] [(a_t, .inr (12, [.ref a_t_now, .ref a_t_tried, .ref a_t_kept, .int t_undos, .ref a_t_saved, .int t_isSaved, .ref a_t_line, .int t_lined, .ref a_t_text, .int t_length, .int t_at, .int t_order, .ref a_t_told, .int t_fault, .int t_reason, .int t_detail, .int t_index, .int t_answer, .int t_thrown, .ref a_t_way, .int t_went, .int t_fell])), (a_t_now, .inl (y 0, 77, .inl t_now)), (a_t_tried, .inl (y 0, 77, .inl t_tried)), (a_t_kept, .inl (y 0, 616, .inl t_kept))] sz) 0 0 (va_A [(a_t, .inr (12, [.ref a_t_now, .ref a_t_tried, .ref a_t_kept, .int t_undos, .ref a_t_saved, .int t_isSaved, .ref a_t_line, .int t_lined, .ref a_t_text, .int t_length, .int t_at, .int t_order, .ref a_t_told, .int t_fault, .int t_reason, .int t_detail, .int t_index, .int t_answer, .int t_thrown, .ref a_t_way, .int t_went, .int t_fell])), (a_t_now, .inl (y 0, 77, .inl t_now)), (a_t_tried, .inl (y 0, 77, .inl t_tried)), (a_t_kept, .inl (y 0, 616, .inl t_kept))] sz) := by
  refine Met.ofW (cc := cX8_weigh) (maxL := 3) (ret := (some .int)) (by decide) rfl ?_
  intro p e s m args below meth c s₁ B hml hv
  obtain ⟨hav, hsz, hP, hK, hD0⟩ := hv
  have hx := B.exec
  have hb := B.bytes
  have hr := B.returns
  have hts := atoms_spec (ws := wsX8_weigh) B.pre
  have hown : s.vm.findClass RX8 = some m.cls := findClass_of_methodNamed B.named
  have hlocks := B.notSynchronized
  subst hsz
  have hD := hD0.self (sz := s.heap.size)
  obtain ⟨A, hAe⟩ : ∃ A : Nat → Prop, va_A [(a_t, .inr (12, [.ref a_t_now, .ref a_t_tried, .ref a_t_kept, .int t_undos, .ref a_t_saved, .int t_isSaved, .ref a_t_line, .int t_lined, .ref a_t_text, .int t_length, .int t_at, .int t_order, .ref a_t_told, .int t_fault, .int t_reason, .int t_detail, .int t_index, .int t_answer, .int t_thrown, .ref a_t_way, .int t_went, .int t_fell])), (a_t_now, .inl (y 0, 77, .inl t_now)), (a_t_tried, .inl (y 0, 77, .inl t_tried)), (a_t_kept, .inl (y 0, 616, .inl t_kept))] s.heap.size = A := ⟨_, rfl⟩
  rw [hAe] at hD
  have hA : ∀ q, s.heap.size ≤ q → A q := fun q h => by rw [← hAe]; exact Or.inr h
  have hS : va_S A s.heap s.heap [] := va_S.rf
  refine W_q (R1 := (rmq 5 111)) rfl (fun Q0 hQ0 => ?_)
  unfold F_X8_weigh at hF
  refine W_entry hav (Nat.le_of_ble_eq_true rfl) (fun ls hl => ?_)
  have hl : lv_has ls 3 [(0, .ref a_t), (1, .int p1), (2, .int p2)] := hl
  refine lv_aload_n hx hb dX8_weigh_0 rfl (lv_at hl 0 rfl) ?_
  obtain ⟨t_thrown_1, t_tried_1, hq_1, hF⟩ := bn2_i hF
  refine cm_Vv (As := []) (rest := []) (wr := [(a_t_kept, .inl (y 0, 616, .inl t_kept))]) ⟨hx, hb, hml, hown, hts⟩ (c_X8_tries l D y fl s.heap.size a_t a_t_now a_t_tried a_t_kept a_t_saved a_t_line a_t_text a_t_told a_t_way t_undos t_isSaved t_lined t_length t_at t_order t_fault t_reason t_detail t_index t_answer t_thrown t_went t_fell t_now t_tried t_thrown_1 t_tried_1 hq_1) (cwV 0 hts gX8_weigh_X8_tries rfl rfl rfl (by decide +kernel) ⟨Nat.le_of_ble_eq_true rfl, Nat.le_of_ble_eq_true rfl⟩) hK hP hD hS hA [0, 1, 2] [3] rfl rfl rfl rfl (by decide) rfl rfl rfl hl.1 rfl (Nat.le_of_ble_eq_true rfl) dX8_weigh_1 ⟨Nat.le_of_ble_eq_true rfl, Nat.le_of_ble_eq_true rfl⟩ (fun H locs hP hD hS => ?_)
  have hP : va_P D vwCl [(a_t_kept, .inl (y 0, 616, .inl t_kept)), (a_t, .inr (12, [.ref a_t_now, .ref a_t_tried, .ref a_t_kept, .int t_undos, .ref a_t_saved, .int t_isSaved, .ref a_t_line, .int t_lined, .ref a_t_text, .int t_length, .int t_at, .int t_order, .ref a_t_told, .int t_fault, .int t_reason, .int t_detail, .int t_index, .int t_answer, .int t_thrown_1, .ref a_t_way, .int t_went, .int t_fell])), (a_t_now, .inl (y 0, 77, .inl t_now)), (a_t_tried, .inl (y 0, 77, .inl t_tried_1))] H := hP
  have hD : va_D A [(a_t_kept, .inl (y 0, 616, .inl t_kept)), (a_t, .inr (12, [.ref a_t_now, .ref a_t_tried, .ref a_t_kept, .int t_undos, .ref a_t_saved, .int t_isSaved, .ref a_t_line, .int t_lined, .ref a_t_text, .int t_length, .int t_at, .int t_order, .ref a_t_told, .int t_fault, .int t_reason, .int t_detail, .int t_index, .int t_answer, .int t_thrown_1, .ref a_t_way, .int t_went, .int t_fell])), (a_t_now, .inl (y 0, 77, .inl t_now)), (a_t_tried, .inl (y 0, 77, .inl t_tried_1))] := hD
  refine lv_aload_n hx hb dX8_weigh_4 rfl (lv_at hl 0 rfl) ?_
  refine lv_aload_n hx hb dX8_weigh_5 rfl (lv_at hl 0 rfl) ?_
  refine lv_iload_n hx hb dX8_weigh_6 rfl (lv_at hl 1 rfl) ?_
  refine lv_iload_n hx hb dX8_weigh_7 rfl (lv_at hl 2 rfl) ?_
  obtain ⟨r_8, t_reason_8, t_detail_8, t_index_8, t_answer_8, t_now_8, hq_8, hF⟩ := bn6_i hF
  refine cm_Vi (As := [.int p1, .int p2]) (rest := [.ref a_t]) (wr := [(a_t_kept, .inl (y 0, 616, .inl t_kept)), (a_t_tried, .inl (y 0, 77, .inl t_tried_1))]) ⟨hx, hb, hml, hown, hts⟩ (c_X8_weighs l D y fl H.size a_t a_t_now a_t_tried a_t_kept a_t_saved a_t_line a_t_text a_t_told a_t_way t_undos t_isSaved t_lined t_length t_at t_order t_fault t_reason t_detail t_index t_answer t_thrown_1 t_went t_fell t_now p1 p2 r_8 t_reason_8 t_detail_8 t_index_8 t_answer_8 t_now_8 hq_8) (cwV 2 hts gX8_weigh_X8_weighs rfl rfl rfl (by decide +kernel) ⟨Nat.le_of_ble_eq_true rfl, Nat.le_of_ble_eq_true rfl⟩) hK hP hD hS hA [1, 2] [0, 3] rfl rfl rfl rfl (by decide) rfl rfl rfl hl.1 rfl (Nat.le_of_ble_eq_true rfl) dX8_weigh_8 ⟨Nat.le_of_ble_eq_true rfl, Nat.le_of_ble_eq_true rfl⟩ (fun H locs hP hD hS => ?_)
  have hP : va_P D vwCl [(a_t_kept, .inl (y 0, 616, .inl t_kept)), (a_t_tried, .inl (y 0, 77, .inl t_tried_1)), (a_t, .inr (12, [.ref a_t_now, .ref a_t_tried, .ref a_t_kept, .int t_undos, .ref a_t_saved, .int t_isSaved, .ref a_t_line, .int t_lined, .ref a_t_text, .int t_length, .int t_at, .int t_order, .ref a_t_told, .int t_fault, .int t_reason_8, .int t_detail_8, .int t_index_8, .int t_answer_8, .int t_thrown_1, .ref a_t_way, .int t_went, .int t_fell])), (a_t_now, .inl (y 0, 77, .inl t_now_8))] H := hP
  have hD : va_D A [(a_t_kept, .inl (y 0, 616, .inl t_kept)), (a_t_tried, .inl (y 0, 77, .inl t_tried_1)), (a_t, .inr (12, [.ref a_t_now, .ref a_t_tried, .ref a_t_kept, .int t_undos, .ref a_t_saved, .int t_isSaved, .ref a_t_line, .int t_lined, .ref a_t_text, .int t_length, .int t_at, .int t_order, .ref a_t_told, .int t_fault, .int t_reason_8, .int t_detail_8, .int t_index_8, .int t_answer_8, .int t_thrown_1, .ref a_t_way, .int t_went, .int t_fell])), (a_t_now, .inl (y 0, 77, .inl t_now_8))] := hD
  obtain ⟨r_11, t_undos_11, t_thrown_11, t_kept_11, hq_11, hF⟩ := bn4_i hF
  refine cm_Vi (As := [.int r_8]) (rest := []) (wr := [(a_t_now, .inl (y 0, 77, .inl t_now_8))]) ⟨hx, hb, hml, hown, hts⟩ (c_X8_ends l D y fl H.size a_t a_t_now a_t_tried a_t_kept a_t_saved a_t_line a_t_text a_t_told a_t_way t_undos t_isSaved t_lined t_length t_at t_order t_fault t_reason_8 t_detail_8 t_index_8 t_answer_8 t_thrown_1 t_went t_fell t_tried_1 t_kept r_8 r_11 t_undos_11 t_thrown_11 t_kept_11 hq_11) (cwV 1 hts gX8_weigh_X8_ends rfl rfl rfl (by decide +kernel) ⟨Nat.le_of_ble_eq_true rfl, Nat.le_of_ble_eq_true rfl⟩) hK hP hD hS hA [2, 1, 0] [3] rfl rfl rfl rfl (by decide) rfl rfl rfl hl.1 rfl (Nat.le_of_ble_eq_true rfl) dX8_weigh_11 ⟨Nat.le_of_ble_eq_true rfl, Nat.le_of_ble_eq_true rfl⟩ (fun H locs hP hD hS => ?_)
  have hP : va_P D vwCl [(a_t_now, .inl (y 0, 77, .inl t_now_8)), (a_t, .inr (12, [.ref a_t_now, .ref a_t_tried, .ref a_t_kept, .int t_undos_11, .ref a_t_saved, .int t_isSaved, .ref a_t_line, .int t_lined, .ref a_t_text, .int t_length, .int t_at, .int t_order, .ref a_t_told, .int t_fault, .int t_reason_8, .int t_detail_8, .int t_index_8, .int t_answer_8, .int t_thrown_11, .ref a_t_way, .int t_went, .int t_fell])), (a_t_tried, .inl (y 0, 77, .inl t_tried_1)), (a_t_kept, .inl (y 0, 616, .inl t_kept_11))] H := hP
  have hD : va_D A [(a_t_now, .inl (y 0, 77, .inl t_now_8)), (a_t, .inr (12, [.ref a_t_now, .ref a_t_tried, .ref a_t_kept, .int t_undos_11, .ref a_t_saved, .int t_isSaved, .ref a_t_line, .int t_lined, .ref a_t_text, .int t_length, .int t_at, .int t_order, .ref a_t_told, .int t_fault, .int t_reason_8, .int t_detail_8, .int t_index_8, .int t_answer_8, .int t_thrown_11, .ref a_t_way, .int t_went, .int t_fell])), (a_t_tried, .inl (y 0, 77, .inl t_tried_1)), (a_t_kept, .inl (y 0, 616, .inl t_kept_11))] := hD
  obtain ⟨e0_14, e1_14, e2_14, e3_14, e4_14, e5_14, e6_14, e7_14, e8_14, e9_14⟩ := inj10 hF
  rw [← e0_14, ← e1_14, ← e2_14, ← e3_14, ← e4_14, ← e5_14, ← e6_14, ← e7_14, ← e8_14, ← e9_14] at hQ0
  rw [hQ0]
  exact ret_i hx hb hr hlocks hAe hK hP hD hS [1, 0, 2, 3] rfl rfl dX8_weigh_14
def F_X8_toss (fl : Nat) (t_undos : Int32) (t_thrown : Int32) (t_now : Nat → Int32) (t_tried : Nat → Int32) (t_kept : Nat → Int32) : Option (Int32 × Int32 × Int32 × (Nat → Int32) × (Nat → Int32) × (Nat → Int32)) := bn2 (F_X8_tries fl t_thrown t_now t_tried) fun t_thrown_1 t_tried_1 => bn2 (F_X8_tosses fl t_now) fun r_6 t_now_6 => if r_6 = 0 then (bn3 (F_X8_keeps fl t_undos t_tried_1 t_kept (0 : Int32)) fun r_17 t_undos_17 t_kept_17 => some (r_17, t_undos_17, t_thrown_1, t_now_6, t_tried_1, t_kept_17)) else (bn3 (F_X8_keeps fl t_undos t_tried_1 t_kept (1 : Int32)) fun r_17b t_undos_17b t_kept_17b => some (r_17b, t_undos_17b, t_thrown_1, t_now_6, t_tried_1, t_kept_17b))
set_option maxHeartbeats 4000000 in
set_option maxRecDepth 100000 in
theorem c_X8_toss (l : Launch) (D : va_G) (y : Nat → ClassId) (fl : Nat) (sz : Nat) (a_t : Nat) (a_t_now : Nat) (a_t_tried : Nat) (a_t_kept : Nat) (a_t_saved : Nat) (a_t_line : Nat) (a_t_text : Nat) (a_t_told : Nat) (a_t_way : Nat) (t_undos : Int32) (t_isSaved : Int32) (t_lined : Int32) (t_length : Int32) (t_at : Int32) (t_order : Int32) (t_fault : Int32) (t_reason : Int32) (t_detail : Int32) (t_index : Int32) (t_answer : Int32) (t_thrown : Int32) (t_went : Int32) (t_fell : Int32) (t_now : Nat → Int32) (t_tried : Nat → Int32) (t_kept : Nat → Int32) (r : Int32) (t_undos' : Int32) (t_thrown' : Int32) (t_now' : Nat → Int32) (t_tried' : Nat → Int32) (t_kept' : Nat → Int32) (hF : F_X8_toss fl t_undos t_thrown t_now t_tried t_kept = some (r, t_undos', t_thrown', t_now', t_tried', t_kept')) : Met l yX8_toss wsX8_toss (rmq 1 22) (wrP D y [(a_t, .inr (12, [.ref a_t_now, .ref a_t_tried, .ref a_t_kept, .int t_undos, .ref a_t_saved, .int t_isSaved, .ref a_t_line, .int t_lined, .ref a_t_text, .int t_length, .int t_at, .int t_order, .ref a_t_told, .int t_fault, .int t_reason, .int t_detail, .int t_index, .int t_answer, .int t_thrown, .ref a_t_way, .int t_went, .int t_fell])), (a_t_now, .inl (y 0, 77, .inl t_now)), (a_t_tried, .inl (y 0, 77, .inl t_tried)), (a_t_kept, .inl (y 0, 616, .inl t_kept))] sz [.ref a_t]) (wQi D y r [(a_t, .inr (12, [.ref a_t_now, .ref a_t_tried, .ref a_t_kept, .int t_undos', .ref a_t_saved, .int t_isSaved, .ref a_t_line, .int t_lined, .ref a_t_text, .int t_length, .int t_at, .int t_order, .ref a_t_told, .int t_fault, .int t_reason, .int t_detail, .int t_index, .int t_answer, .int t_thrown', .ref a_t_way, .int t_went, .int t_fell])), (a_t_now, .inl (y 0, 77, .inl t_now')), (a_t_tried, .inl (y 0, 77, .inl t_tried')), (a_t_kept, .inl (y 0, 616, .inl t_kept'))] [(a_t, .inr (12, [.ref a_t_now, .ref a_t_tried, .ref a_t_kept, .int t_undos, .ref a_t_saved, .int t_isSaved, .ref a_t_line, .int t_lined, .ref a_t_text, .int t_length, .int t_at, .int t_order, .ref a_t_told, .int t_fault, .int t_reason, .int t_detail, .int t_index, .int t_answer, .int t_thrown, .ref a_t_way, .int t_went, .int t_fell])), (a_t_now, .inl (y 0, 77, .inl t_now)), (a_t_tried, .inl (y 0, 77, .inl t_tried)), (a_t_kept, .inl (y 0, 616, .inl t_kept))] sz) 0 0 (va_A [(a_t, .inr (12, [.ref a_t_now, .ref a_t_tried, .ref a_t_kept, .int t_undos, .ref a_t_saved, .int t_isSaved, .ref a_t_line, .int t_lined, .ref a_t_text, .int t_length, .int t_at, .int t_order, .ref a_t_told, .int t_fault, .int t_reason, .int t_detail, .int t_index, .int t_answer, .int t_thrown, .ref a_t_way, .int t_went, .int t_fell])), (a_t_now, .inl (y 0, 77, .inl t_now)), (a_t_tried, .inl (y 0, 77, .inl t_tried)), (a_t_kept, .inl (y 0, 616, .inl t_kept))] sz) := by
  refine Met.ofW (cc := cX8_toss) (maxL := 1) (ret := (some .int)) (by decide) rfl ?_
  intro p e s m args below meth c s₁ B hml hv
  obtain ⟨hav, hsz, hP, hK, hD0⟩ := hv
  have hx := B.exec
  have hb := B.bytes
  have hr := B.returns
  have hts := atoms_spec (ws := wsX8_toss) B.pre
  have hown : s.vm.findClass RX8 = some m.cls := findClass_of_methodNamed B.named
  have hlocks := B.notSynchronized
  subst hsz
  have hD := hD0.self (sz := s.heap.size)
  obtain ⟨A, hAe⟩ : ∃ A : Nat → Prop, va_A [(a_t, .inr (12, [.ref a_t_now, .ref a_t_tried, .ref a_t_kept, .int t_undos, .ref a_t_saved, .int t_isSaved, .ref a_t_line, .int t_lined, .ref a_t_text, .int t_length, .int t_at, .int t_order, .ref a_t_told, .int t_fault, .int t_reason, .int t_detail, .int t_index, .int t_answer, .int t_thrown, .ref a_t_way, .int t_went, .int t_fell])), (a_t_now, .inl (y 0, 77, .inl t_now)), (a_t_tried, .inl (y 0, 77, .inl t_tried)), (a_t_kept, .inl (y 0, 616, .inl t_kept))] s.heap.size = A := ⟨_, rfl⟩
  rw [hAe] at hD
  have hA : ∀ q, s.heap.size ≤ q → A q := fun q h => by rw [← hAe]; exact Or.inr h
  have hS : va_S A s.heap s.heap [] := va_S.rf
  refine W_q (R1 := (rmq 1 22)) rfl (fun Q0 hQ0 => ?_)
  unfold F_X8_toss at hF
  refine W_entry hav (Nat.le_of_ble_eq_true rfl) (fun ls hl => ?_)
  have hl : lv_has ls 1 [(0, .ref a_t)] := hl
  refine lv_aload_n hx hb dX8_toss_0 rfl (lv_at hl 0 rfl) ?_
  obtain ⟨t_thrown_1, t_tried_1, hq_1, hF⟩ := bn2_i hF
  refine cm_Vv (As := []) (rest := []) (wr := [(a_t_kept, .inl (y 0, 616, .inl t_kept))]) ⟨hx, hb, hml, hown, hts⟩ (c_X8_tries l D y fl s.heap.size a_t a_t_now a_t_tried a_t_kept a_t_saved a_t_line a_t_text a_t_told a_t_way t_undos t_isSaved t_lined t_length t_at t_order t_fault t_reason t_detail t_index t_answer t_thrown t_went t_fell t_now t_tried t_thrown_1 t_tried_1 hq_1) (cwV 0 hts gX8_toss_X8_tries rfl rfl rfl (by decide +kernel) ⟨Nat.le_of_ble_eq_true rfl, Nat.le_of_ble_eq_true rfl⟩) hK hP hD hS hA [0, 1, 2] [3] rfl rfl rfl rfl (by decide) rfl rfl rfl hl.1 rfl (Nat.le_of_ble_eq_true rfl) dX8_toss_1 ⟨Nat.le_of_ble_eq_true rfl, Nat.le_of_ble_eq_true rfl⟩ (fun H locs hP hD hS => ?_)
  have hP : va_P D vwCl [(a_t_kept, .inl (y 0, 616, .inl t_kept)), (a_t, .inr (12, [.ref a_t_now, .ref a_t_tried, .ref a_t_kept, .int t_undos, .ref a_t_saved, .int t_isSaved, .ref a_t_line, .int t_lined, .ref a_t_text, .int t_length, .int t_at, .int t_order, .ref a_t_told, .int t_fault, .int t_reason, .int t_detail, .int t_index, .int t_answer, .int t_thrown_1, .ref a_t_way, .int t_went, .int t_fell])), (a_t_now, .inl (y 0, 77, .inl t_now)), (a_t_tried, .inl (y 0, 77, .inl t_tried_1))] H := hP
  have hD : va_D A [(a_t_kept, .inl (y 0, 616, .inl t_kept)), (a_t, .inr (12, [.ref a_t_now, .ref a_t_tried, .ref a_t_kept, .int t_undos, .ref a_t_saved, .int t_isSaved, .ref a_t_line, .int t_lined, .ref a_t_text, .int t_length, .int t_at, .int t_order, .ref a_t_told, .int t_fault, .int t_reason, .int t_detail, .int t_index, .int t_answer, .int t_thrown_1, .ref a_t_way, .int t_went, .int t_fell])), (a_t_now, .inl (y 0, 77, .inl t_now)), (a_t_tried, .inl (y 0, 77, .inl t_tried_1))] := hD
  refine lv_aload_n hx hb dX8_toss_4 rfl (lv_at hl 0 rfl) ?_
  refine lv_aload_n hx hb dX8_toss_5 rfl (lv_at hl 0 rfl) ?_
  obtain ⟨r_6, t_now_6, hq_6, hF⟩ := bn2_i hF
  refine cm_Vi (As := []) (rest := [.ref a_t]) (wr := [(a_t_kept, .inl (y 0, 616, .inl t_kept)), (a_t_tried, .inl (y 0, 77, .inl t_tried_1))]) ⟨hx, hb, hml, hown, hts⟩ (c_X8_tosses l D y fl H.size a_t a_t_now a_t_tried a_t_kept a_t_saved a_t_line a_t_text a_t_told a_t_way t_undos t_isSaved t_lined t_length t_at t_order t_fault t_reason t_detail t_index t_answer t_thrown_1 t_went t_fell t_now r_6 t_now_6 hq_6) (cwV 0 hts gX8_toss_X8_tosses rfl rfl rfl (by decide +kernel) ⟨Nat.le_of_ble_eq_true rfl, Nat.le_of_ble_eq_true rfl⟩) hK hP hD hS hA [1, 2] [0, 3] rfl rfl rfl rfl (by decide) rfl rfl rfl hl.1 rfl (Nat.le_of_ble_eq_true rfl) dX8_toss_6 ⟨Nat.le_of_ble_eq_true rfl, Nat.le_of_ble_eq_true rfl⟩ (fun H locs hP hD hS => ?_)
  have hP : va_P D vwCl [(a_t_kept, .inl (y 0, 616, .inl t_kept)), (a_t_tried, .inl (y 0, 77, .inl t_tried_1)), (a_t, .inr (12, [.ref a_t_now, .ref a_t_tried, .ref a_t_kept, .int t_undos, .ref a_t_saved, .int t_isSaved, .ref a_t_line, .int t_lined, .ref a_t_text, .int t_length, .int t_at, .int t_order, .ref a_t_told, .int t_fault, .int t_reason, .int t_detail, .int t_index, .int t_answer, .int t_thrown_1, .ref a_t_way, .int t_went, .int t_fell])), (a_t_now, .inl (y 0, 77, .inl t_now_6))] H := hP
  have hD : va_D A [(a_t_kept, .inl (y 0, 616, .inl t_kept)), (a_t_tried, .inl (y 0, 77, .inl t_tried_1)), (a_t, .inr (12, [.ref a_t_now, .ref a_t_tried, .ref a_t_kept, .int t_undos, .ref a_t_saved, .int t_isSaved, .ref a_t_line, .int t_lined, .ref a_t_text, .int t_length, .int t_at, .int t_order, .ref a_t_told, .int t_fault, .int t_reason, .int t_detail, .int t_index, .int t_answer, .int t_thrown_1, .ref a_t_way, .int t_went, .int t_fell])), (a_t_now, .inl (y 0, 77, .inl t_now_6))] := hD
  refine lv_if_eq (tgt := 16) hx hb dX8_toss_9 (by decide) (fun c_9 => ?_) (fun c_9 => ?_)
  · have hF := ift hF c_9
    refine lv_iconst (v := 0) hx hb dX8_toss_16 (by decide) ?_
    obtain ⟨r_17, t_undos_17, t_kept_17, hq_17, hF⟩ := bn3_i hF
    refine cm_Vi (As := [.int (0 : Int32)]) (rest := []) (wr := [(a_t_now, .inl (y 0, 77, .inl t_now_6))]) ⟨hx, hb, hml, hown, hts⟩ (c_X8_keeps l D y fl H.size a_t a_t_now a_t_tried a_t_kept a_t_saved a_t_line a_t_text a_t_told a_t_way t_undos t_isSaved t_lined t_length t_at t_order t_fault t_reason t_detail t_index t_answer t_thrown_1 t_went t_fell t_tried_1 t_kept (0 : Int32) r_17 t_undos_17 t_kept_17 hq_17) (cwV 1 hts gX8_toss_X8_keeps rfl rfl rfl (by decide +kernel) ⟨Nat.le_of_ble_eq_true rfl, Nat.le_of_ble_eq_true rfl⟩) hK hP hD hS hA [2, 1, 0] [3] rfl rfl rfl rfl (by decide) rfl rfl rfl hl.1 rfl (Nat.le_of_ble_eq_true rfl) dX8_toss_17 ⟨Nat.le_of_ble_eq_true rfl, Nat.le_of_ble_eq_true rfl⟩ (fun H locs hP hD hS => ?_)
    have hP : va_P D vwCl [(a_t_now, .inl (y 0, 77, .inl t_now_6)), (a_t, .inr (12, [.ref a_t_now, .ref a_t_tried, .ref a_t_kept, .int t_undos_17, .ref a_t_saved, .int t_isSaved, .ref a_t_line, .int t_lined, .ref a_t_text, .int t_length, .int t_at, .int t_order, .ref a_t_told, .int t_fault, .int t_reason, .int t_detail, .int t_index, .int t_answer, .int t_thrown_1, .ref a_t_way, .int t_went, .int t_fell])), (a_t_tried, .inl (y 0, 77, .inl t_tried_1)), (a_t_kept, .inl (y 0, 616, .inl t_kept_17))] H := hP
    have hD : va_D A [(a_t_now, .inl (y 0, 77, .inl t_now_6)), (a_t, .inr (12, [.ref a_t_now, .ref a_t_tried, .ref a_t_kept, .int t_undos_17, .ref a_t_saved, .int t_isSaved, .ref a_t_line, .int t_lined, .ref a_t_text, .int t_length, .int t_at, .int t_order, .ref a_t_told, .int t_fault, .int t_reason, .int t_detail, .int t_index, .int t_answer, .int t_thrown_1, .ref a_t_way, .int t_went, .int t_fell])), (a_t_tried, .inl (y 0, 77, .inl t_tried_1)), (a_t_kept, .inl (y 0, 616, .inl t_kept_17))] := hD
    obtain ⟨e0_20, e1_20, e2_20, e3_20, e4_20, e5_20⟩ := inj6 hF
    rw [← e0_20, ← e1_20, ← e2_20, ← e3_20, ← e4_20, ← e5_20] at hQ0
    rw [hQ0]
    exact ret_i hx hb hr hlocks hAe hK hP hD hS [1, 0, 2, 3] rfl rfl dX8_toss_20
  · have hF := iff_ hF c_9
    refine lv_iconst (v := 1) hx hb dX8_toss_12 (by decide) ?_
    refine lv_goto (tgt := 17) hx hb dX8_toss_13 (by decide) ?_
    obtain ⟨r_17b, t_undos_17b, t_kept_17b, hq_17b, hF⟩ := bn3_i hF
    refine cm_Vi (As := [.int (1 : Int32)]) (rest := []) (wr := [(a_t_now, .inl (y 0, 77, .inl t_now_6))]) ⟨hx, hb, hml, hown, hts⟩ (c_X8_keeps l D y fl H.size a_t a_t_now a_t_tried a_t_kept a_t_saved a_t_line a_t_text a_t_told a_t_way t_undos t_isSaved t_lined t_length t_at t_order t_fault t_reason t_detail t_index t_answer t_thrown_1 t_went t_fell t_tried_1 t_kept (1 : Int32) r_17b t_undos_17b t_kept_17b hq_17b) (cwV 1 hts gX8_toss_X8_keeps rfl rfl rfl (by decide +kernel) ⟨Nat.le_of_ble_eq_true rfl, Nat.le_of_ble_eq_true rfl⟩) hK hP hD hS hA [2, 1, 0] [3] rfl rfl rfl rfl (by decide) rfl rfl rfl hl.1 rfl (Nat.le_of_ble_eq_true rfl) dX8_toss_17 ⟨Nat.le_of_ble_eq_true rfl, Nat.le_of_ble_eq_true rfl⟩ (fun H locs hP hD hS => ?_)
    have hP : va_P D vwCl [(a_t_now, .inl (y 0, 77, .inl t_now_6)), (a_t, .inr (12, [.ref a_t_now, .ref a_t_tried, .ref a_t_kept, .int t_undos_17b, .ref a_t_saved, .int t_isSaved, .ref a_t_line, .int t_lined, .ref a_t_text, .int t_length, .int t_at, .int t_order, .ref a_t_told, .int t_fault, .int t_reason, .int t_detail, .int t_index, .int t_answer, .int t_thrown_1, .ref a_t_way, .int t_went, .int t_fell])), (a_t_tried, .inl (y 0, 77, .inl t_tried_1)), (a_t_kept, .inl (y 0, 616, .inl t_kept_17b))] H := hP
    have hD : va_D A [(a_t_now, .inl (y 0, 77, .inl t_now_6)), (a_t, .inr (12, [.ref a_t_now, .ref a_t_tried, .ref a_t_kept, .int t_undos_17b, .ref a_t_saved, .int t_isSaved, .ref a_t_line, .int t_lined, .ref a_t_text, .int t_length, .int t_at, .int t_order, .ref a_t_told, .int t_fault, .int t_reason, .int t_detail, .int t_index, .int t_answer, .int t_thrown_1, .ref a_t_way, .int t_went, .int t_fell])), (a_t_tried, .inl (y 0, 77, .inl t_tried_1)), (a_t_kept, .inl (y 0, 616, .inl t_kept_17b))] := hD
    obtain ⟨e0_20, e1_20, e2_20, e3_20, e4_20, e5_20⟩ := inj6 hF
    rw [← e0_20, ← e1_20, ← e2_20, ← e3_20, ← e4_20, ← e5_20] at hQ0
    rw [hQ0]
    exact ret_i hx hb hr hlocks hAe hK hP hD hS [1, 0, 2, 3] rfl rfl dX8_toss_20
