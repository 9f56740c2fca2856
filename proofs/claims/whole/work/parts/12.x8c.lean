def F_X8_sign (fl : Nat) (t_length : Int32) (t_at : Int32) (t_text : Nat → Int32) (p1 : Int32) : Option (Int32 × Int32) := if t_at = t_length then (some ((0 : Int32), t_at)) else (gi t_at 60 (if (t_text t_at.toNatClampNeg) = p1 then (some ((1 : Int32), t_at + (1 : Int32))) else (some ((0 : Int32), t_at))))
theorem iX8_sign_X8 : ∀ w ∈ u_ws RX8 TX8 22, w ∈ wsX8_sign := fun w h => List.mem_cons_of_mem _ (List.mem_append_left _ (List.mem_append_right _ h))
set_option maxHeartbeats 4000000 in
set_option maxRecDepth 100000 in
theorem c_X8_sign (l : Launch) (D : va_G) (y : Nat → ClassId) (fl : Nat) (sz : Nat) (a_t : Nat) (a_t_now : Nat) (a_t_tried : Nat) (a_t_kept : Nat) (a_t_saved : Nat) (a_t_line : Nat) (a_t_text : Nat) (a_t_told : Nat) (a_t_way : Nat) (t_undos : Int32) (t_isSaved : Int32) (t_lined : Int32) (t_length : Int32) (t_at : Int32) (t_order : Int32) (t_fault : Int32) (t_reason : Int32) (t_detail : Int32) (t_index : Int32) (t_answer : Int32) (t_thrown : Int32) (t_went : Int32) (t_fell : Int32) (t_text : Nat → Int32) (p1 : Int32) (r : Int32) (t_at' : Int32) (hF : F_X8_sign fl t_length t_at t_text p1 = some (r, t_at')) : Met l yX8_sign wsX8_sign (rmq 0 0) (wrP D y [(a_t, .inr (12, [.ref a_t_now, .ref a_t_tried, .ref a_t_kept, .int t_undos, .ref a_t_saved, .int t_isSaved, .ref a_t_line, .int t_lined, .ref a_t_text, .int t_length, .int t_at, .int t_order, .ref a_t_told, .int t_fault, .int t_reason, .int t_detail, .int t_index, .int t_answer, .int t_thrown, .ref a_t_way, .int t_went, .int t_fell])), (a_t_text, .inl (y 1, 60, .inl t_text))] sz [.ref a_t, .int p1]) (wQi D y r [(a_t, .inr (12, [.ref a_t_now, .ref a_t_tried, .ref a_t_kept, .int t_undos, .ref a_t_saved, .int t_isSaved, .ref a_t_line, .int t_lined, .ref a_t_text, .int t_length, .int t_at', .int t_order, .ref a_t_told, .int t_fault, .int t_reason, .int t_detail, .int t_index, .int t_answer, .int t_thrown, .ref a_t_way, .int t_went, .int t_fell])), (a_t_text, .inl (y 1, 60, .inl t_text))] [(a_t, .inr (12, [.ref a_t_now, .ref a_t_tried, .ref a_t_kept, .int t_undos, .ref a_t_saved, .int t_isSaved, .ref a_t_line, .int t_lined, .ref a_t_text, .int t_length, .int t_at, .int t_order, .ref a_t_told, .int t_fault, .int t_reason, .int t_detail, .int t_index, .int t_answer, .int t_thrown, .ref a_t_way, .int t_went, .int t_fell])), (a_t_text, .inl (y 1, 60, .inl t_text))] sz) 0 0 (va_A [(a_t, .inr (12, [.ref a_t_now, .ref a_t_tried, .ref a_t_kept, .int t_undos, .ref a_t_saved, .int t_isSaved, .ref a_t_line, .int t_lined, .ref a_t_text, .int t_length, .int t_at, .int t_order, .ref a_t_told, .int t_fault, .int t_reason, .int t_detail, .int t_index, .int t_answer, .int t_thrown, .ref a_t_way, .int t_went, .int t_fell])), (a_t_text, .inl (y 1, 60, .inl t_text))] sz) := by
  refine Met.ofW (cc := cX8_sign) (maxL := 2) (ret := (some .boolean)) (by decide) rfl ?_
  intro p e s m args below meth c s₁ B hml hv
  obtain ⟨hav, hsz, hP, hK, hD0⟩ := hv
  have hx := B.exec
  have hb := B.bytes
  have hr := B.returns
  have hts := atoms_spec (ws := wsX8_sign) B.pre
  have hown : s.vm.findClass RX8 = some m.cls := findClass_of_methodNamed B.named
  have hlocks := B.notSynchronized
  subst hsz
  have hD := hD0.self (sz := s.heap.size)
  obtain ⟨A, hAe⟩ : ∃ A : Nat → Prop, va_A [(a_t, .inr (12, [.ref a_t_now, .ref a_t_tried, .ref a_t_kept, .int t_undos, .ref a_t_saved, .int t_isSaved, .ref a_t_line, .int t_lined, .ref a_t_text, .int t_length, .int t_at, .int t_order, .ref a_t_told, .int t_fault, .int t_reason, .int t_detail, .int t_index, .int t_answer, .int t_thrown, .ref a_t_way, .int t_went, .int t_fell])), (a_t_text, .inl (y 1, 60, .inl t_text))] s.heap.size = A := ⟨_, rfl⟩
  rw [hAe] at hD
  have hA : ∀ q, s.heap.size ≤ q → A q := fun q h => by rw [← hAe]; exact Or.inr h
  have hS : va_S A s.heap s.heap [] := va_S.rf
  refine W_q (R1 := (rmq 0 0)) rfl (fun Q0 hQ0 => ?_)
  unfold F_X8_sign at hF
  refine W_entry hav (Nat.le_of_ble_eq_true rfl) (fun ls hl => ?_)
  have hl : lv_has ls 2 [(0, .ref a_t), (1, .int p1)] := hl
  refine lv_aload_n hx hb dX8_sign_0 rfl (lv_at hl 0 rfl) ?_
  refine va_get (D := D) (ci := 12) (v := .int t_at) (C := RX8) (T := TX8) (N := 22) hx hb hts iX8_sign_X8 hown hK hP 0 rfl rfl 10 (by decide) (hts (.fieldLink RX8 170 "SkipArchiveModel" "at" "I") (List.mem_of_getElem? (i := 1) rfl)) (fun _ h9 => h9) rfl dX8_sign_1 ?_
  refine lv_aload_n hx hb dX8_sign_4 rfl (lv_at hl 0 rfl) ?_
  refine va_get (D := D) (ci := 12) (v := .int t_length) (C := RX8) (T := TX8) (N := 22) hx hb hts iX8_sign_X8 hown hK hP 0 rfl rfl 9 (by decide) (hts (.fieldLink RX8 167 "SkipArchiveModel" "length" "I") (List.mem_of_getElem? (i := 2) rfl)) (fun _ h9 => h9) rfl dX8_sign_5 ?_
  refine lv_icmp_eq (tgt := 24) hx hb dX8_sign_8 (by decide) (fun c_8 => ?_) (fun c_8 => ?_)
  · have hF := ift hF c_8
    refine lv_iconst (v := 0) hx hb dX8_sign_24 (by decide) ?_
    obtain ⟨e0_25, e1_25⟩ := inj2 hF
    rw [← e0_25, ← e1_25] at hQ0
    rw [hQ0]
    exact ret_z hx hb hr (by decide +kernel) hlocks hAe hK hP hD hS [0, 1] rfl rfl dX8_sign_25
  · have hF := iff_ hF c_8
    refine lv_aload_n hx hb dX8_sign_11 rfl (lv_at hl 0 rfl) ?_
    refine va_get (D := D) (ci := 12) (v := .ref a_t_text) (C := RX8) (T := TX8) (N := 22) hx hb hts iX8_sign_X8 hown hK hP 0 rfl rfl 8 (by decide) (hts (.fieldLink RX8 26 "SkipArchiveModel" "text" "[C") (List.mem_of_getElem? (i := 3) rfl)) (fun _ h9 => h9) rfl dX8_sign_12 ?_
    refine lv_aload_n hx hb dX8_sign_15 rfl (lv_at hl 0 rfl) ?_
    refine va_get (D := D) (ci := 12) (v := .int t_at) (C := RX8) (T := TX8) (N := 22) hx hb hts iX8_sign_X8 hown hK hP 0 rfl rfl 10 (by decide) (hts (.fieldLink RX8 170 "SkipArchiveModel" "at" "I") (List.mem_of_getElem? (i := 1) rfl)) (fun _ h9 => h9) rfl dX8_sign_16 ?_
    obtain ⟨g_19, hF⟩ := gi_i hF
    refine va_cald hx hb hK hP 1 1 rfl rfl g_19 dX8_sign_19 ?_
    refine lv_iload_n hx hb dX8_sign_20 rfl (lv_at hl 1 rfl) ?_
    refine lv_icmp_eq (tgt := 26) hx hb dX8_sign_21 (by decide) (fun c_21 => ?_) (fun c_21 => ?_)
    · have hF := ift hF c_21
      refine lv_aload_n hx hb dX8_sign_26 rfl (lv_at hl 0 rfl) ?_
      refine lv_dup hx hb dX8_sign_27 rfl ?_
      refine va_get (D := D) (ci := 12) (v := .int t_at) (C := RX8) (T := TX8) (N := 22) hx hb hts iX8_sign_X8 hown hK hP 0 rfl rfl 10 (by decide) (hts (.fieldLink RX8 170 "SkipArchiveModel" "at" "I") (List.mem_of_getElem? (i := 1) rfl)) (fun _ h9 => h9) rfl dX8_sign_28 ?_
      refine lv_iconst (v := 1) hx hb dX8_sign_31 (by decide) ?_
      refine lv_iadd hx hb dX8_sign_32 ?_
      refine va_put (D := D) (ci := 12) (v := .int (t_at + (1 : Int32))) (ty := .int) (C := RX8) (T := TX8) (N := 22) hx hb hts iX8_sign_X8 tyX8 tyX8_ok nmX8 hown hK hP hD hS 0 rfl rfl 10 (by decide) (hts (.fieldLink RX8 170 "SkipArchiveModel" "at" "I") (List.mem_of_getElem? (i := 1) rfl)) (fun _ h9 => h9) rfl (by decide +kernel) rfl rfl (Nat.le_of_ble_eq_true rfl) dX8_sign_33 (fun H locs hP hD hS => ?_)
      have hP : va_P D vwCl [(a_t, .inr (12, [.ref a_t_now, .ref a_t_tried, .ref a_t_kept, .int t_undos, .ref a_t_saved, .int t_isSaved, .ref a_t_line, .int t_lined, .ref a_t_text, .int t_length, .int (t_at + (1 : Int32)), .int t_order, .ref a_t_told, .int t_fault, .int t_reason, .int t_detail, .int t_index, .int t_answer, .int t_thrown, .ref a_t_way, .int t_went, .int t_fell])), (a_t_text, .inl (y 1, 60, .inl t_text))] H := hP
      have hD : va_D A [(a_t, .inr (12, [.ref a_t_now, .ref a_t_tried, .ref a_t_kept, .int t_undos, .ref a_t_saved, .int t_isSaved, .ref a_t_line, .int t_lined, .ref a_t_text, .int t_length, .int (t_at + (1 : Int32)), .int t_order, .ref a_t_told, .int t_fault, .int t_reason, .int t_detail, .int t_index, .int t_answer, .int t_thrown, .ref a_t_way, .int t_went, .int t_fell])), (a_t_text, .inl (y 1, 60, .inl t_text))] := hD
      refine lv_iconst (v := 1) hx hb dX8_sign_36 (by decide) ?_
      obtain ⟨e0_37, e1_37⟩ := inj2 hF
      rw [← e0_37, ← e1_37] at hQ0
      rw [hQ0]
      exact ret_z hx hb hr (by decide +kernel) hlocks hAe hK hP hD hS [0, 1] rfl rfl dX8_sign_37
    · have hF := iff_ hF c_21
      refine lv_iconst (v := 0) hx hb dX8_sign_24 (by decide) ?_
      obtain ⟨e0_25, e1_25⟩ := inj2 hF
      rw [← e0_25, ← e1_25] at hQ0
      rw [hQ0]
      exact ret_z hx hb hr (by decide +kernel) hlocks hAe hK hP hD hS [0, 1] rfl rfl dX8_sign_25
def F_X8_number_9 (fl : Nat) (t_length : Int32) (t_text : Nat → Int32) : Nat → Int32 → (Nat → Int32) → Int32 → Int32 → Int32 → Option (Int32 × Int32 × (Nat → Int32))
  | 0, _, _, _, _, _ => none
  | n + 1, t_at_w, t_told_w, x1, x2, x3 => if x2 ≤ x3 then (if x3 ≤ 0 then (some ((0 : Int32), t_at_w, t_told_w)) else (some ((1 : Int32), t_at_w, t_told_w))) else (if t_length ≤ t_at_w then (if x3 ≤ 0 then (some ((0 : Int32), t_at_w, t_told_w)) else (some ((1 : Int32), t_at_w, t_told_w))) else (gi t_at_w 60 (bn (F_X8_in fl (t_text t_at_w.toNatClampNeg) (48 : Int32) (57 : Int32)) fun r_38 => if r_38 = 0 then (if x3 ≤ 0 then (some ((0 : Int32), t_at_w, t_told_w)) else (some ((1 : Int32), t_at_w, t_told_w))) else (gi x1 3 (gi t_at_w 60 (gi x1 3 (F_X8_number_9 fl t_length t_text n (t_at_w + (1 : Int32)) (upd t_told_w x1.toNatClampNeg ((((10 : Int32) * (t_told_w x1.toNatClampNeg)) + (t_text t_at_w.toNatClampNeg)) - (48 : Int32))) x1 x2 (x3 + (1 : Int32)))))))))
def F_X8_number (fl : Nat) (t_length : Int32) (t_at : Int32) (t_text : Nat → Int32) (t_told : Nat → Int32) (p1 : Int32) (p2 : Int32) : Option (Int32 × Int32 × (Nat → Int32)) := gi p1 3 (F_X8_number_9 fl t_length t_text fl t_at (upd t_told p1.toNatClampNeg (0 : Int32)) p1 p2 (0 : Int32))
theorem iX8_number_X8 : ∀ w ∈ u_ws RX8 TX8 22, w ∈ wsX8_number := fun w h => List.mem_cons_of_mem _ (List.mem_append_left _ (List.mem_append_right _ h))
set_option maxHeartbeats 4000000 in
set_option maxRecDepth 100000 in
theorem c_X8_number (l : Launch) (D : va_G) (y : Nat → ClassId) (fl : Nat) (sz : Nat) (a_t : Nat) (a_t_now : Nat) (a_t_tried : Nat) (a_t_kept : Nat) (a_t_saved : Nat) (a_t_line : Nat) (a_t_text : Nat) (a_t_told : Nat) (a_t_way : Nat) (t_undos : Int32) (t_isSaved : Int32) (t_lined : Int32) (t_length : Int32) (t_at : Int32) (t_order : Int32) (t_fault : Int32) (t_reason : Int32) (t_detail : Int32) (t_index : Int32) (t_answer : Int32) (t_thrown : Int32) (t_went : Int32) (t_fell : Int32) (t_text : Nat → Int32) (t_told : Nat → Int32) (p1 : Int32) (p2 : Int32) (r : Int32) (t_at' : Int32) (t_told' : Nat → Int32) (hF : F_X8_number fl t_length t_at t_text t_told p1 p2 = some (r, t_at', t_told')) : Met l yX8_number wsX8_number (rmq 1 22) (wrP D y [(a_t, .inr (12, [.ref a_t_now, .ref a_t_tried, .ref a_t_kept, .int t_undos, .ref a_t_saved, .int t_isSaved, .ref a_t_line, .int t_lined, .ref a_t_text, .int t_length, .int t_at, .int t_order, .ref a_t_told, .int t_fault, .int t_reason, .int t_detail, .int t_index, .int t_answer, .int t_thrown, .ref a_t_way, .int t_went, .int t_fell])), (a_t_text, .inl (y 1, 60, .inl t_text)), (a_t_told, .inl (y 0, 3, .inl t_told))] sz [.ref a_t, .int p1, .int p2]) (wQi D y r [(a_t, .inr (12, [.ref a_t_now, .ref a_t_tried, .ref a_t_kept, .int t_undos, .ref a_t_saved, .int t_isSaved, .ref a_t_line, .int t_lined, .ref a_t_text, .int t_length, .int t_at', .int t_order, .ref a_t_told, .int t_fault, .int t_reason, .int t_detail, .int t_index, .int t_answer, .int t_thrown, .ref a_t_way, .int t_went, .int t_fell])), (a_t_text, .inl (y 1, 60, .inl t_text)), (a_t_told, .inl (y 0, 3, .inl t_told'))] [(a_t, .inr (12, [.ref a_t_now, .ref a_t_tried, .ref a_t_kept, .int t_undos, .ref a_t_saved, .int t_isSaved, .ref a_t_line, .int t_lined, .ref a_t_text, .int t_length, .int t_at, .int t_order, .ref a_t_told, .int t_fault, .int t_reason, .int t_detail, .int t_index, .int t_answer, .int t_thrown, .ref a_t_way, .int t_went, .int t_fell])), (a_t_text, .inl (y 1, 60, .inl t_text)), (a_t_told, .inl (y 0, 3, .inl t_told))] sz) 0 0 (va_A [(a_t, .inr (12, [.ref a_t_now, .ref a_t_tried, .ref a_t_kept, .int t_undos, .ref a_t_saved, .int t_isSaved, .ref a_t_line, .int t_lined, .ref a_t_text, .int t_length, .int t_at, .int t_order, .ref a_t_told, .int t_fault, .int t_reason, .int t_detail, .int t_index, .int t_answer, .int t_thrown, .ref a_t_way, .int t_went, .int t_fell])), (a_t_text, .inl (y 1, 60, .inl t_text)), (a_t_told, .inl (y 0, 3, .inl t_told))] sz) := by
  refine Met.ofW (cc := cX8_number) (maxL := 4) (ret := (some .boolean)) (by decide) rfl ?_
  intro p e s m args below meth c s₁ B hml hv
  obtain ⟨hav, hsz, hP, hK, hD0⟩ := hv
  have hx := B.exec
  have hb := B.bytes
  have hr := B.returns
  have hts := atoms_spec (ws := wsX8_number) B.pre
  have hown : s.vm.findClass RX8 = some m.cls := findClass_of_methodNamed B.named
  have hlocks := B.notSynchronized
  subst hsz
  have hD := hD0.self (sz := s.heap.size)
  obtain ⟨A, hAe⟩ : ∃ A : Nat → Prop, va_A [(a_t, .inr (12, [.ref a_t_now, .ref a_t_tried, .ref a_t_kept, .int t_undos, .ref a_t_saved, .int t_isSaved, .ref a_t_line, .int t_lined, .ref a_t_text, .int t_length, .int t_at, .int t_order, .ref a_t_told, .int t_fault, .int t_reason, .int t_detail, .int t_index, .int t_answer, .int t_thrown, .ref a_t_way, .int t_went, .int t_fell])), (a_t_text, .inl (y 1, 60, .inl t_text)), (a_t_told, .inl (y 0, 3, .inl t_told))] s.heap.size = A := ⟨_, rfl⟩
  rw [hAe] at hD
  have hA : ∀ q, s.heap.size ≤ q → A q := fun q h => by rw [← hAe]; exact Or.inr h
  have hS : va_S A s.heap s.heap [] := va_S.rf
  refine W_q (R1 := (rmq 1 22)) rfl (fun Q0 hQ0 => ?_)
  unfold F_X8_number at hF
  have k_9 : ∀ (n : Nat) (t_at_w : Int32) (t_told_w : Nat → Int32) (x1 : Int32) (x2 : Int32) (x3 : Int32), F_X8_number_9 fl t_length t_text n t_at_w t_told_w x1 x2 x3 = some (r, t_at', t_told') → ∀ (H : Heap) (locs : List Loc), va_P D vwCl [(a_t, .inr (12, [.ref a_t_now, .ref a_t_tried, .ref a_t_kept, .int t_undos, .ref a_t_saved, .int t_isSaved, .ref a_t_line, .int t_lined, .ref a_t_text, .int t_length, .int t_at_w, .int t_order, .ref a_t_told, .int t_fault, .int t_reason, .int t_detail, .int t_index, .int t_answer, .int t_thrown, .ref a_t_way, .int t_went, .int t_fell])), (a_t_text, .inl (y 1, 60, .inl t_text)), (a_t_told, .inl (y 0, 3, .inl t_told_w))] H → va_D A [(a_t, .inr (12, [.ref a_t_now, .ref a_t_tried, .ref a_t_kept, .int t_undos, .ref a_t_saved, .int t_isSaved, .ref a_t_line, .int t_lined, .ref a_t_text, .int t_length, .int t_at_w, .int t_order, .ref a_t_told, .int t_fault, .int t_reason, .int t_detail, .int t_index, .int t_answer, .int t_thrown, .ref a_t_way, .int t_went, .int t_fell])), (a_t_text, .inl (y 1, 60, .inl t_text)), (a_t_told, .inl (y 0, 3, .inl t_told_w))] → va_S A s.heap H locs → ∀ (ls : Array Slot), lv_has ls 4 [(0, .ref a_t), (1, .int x1), (2, .int x2), (3, .int x3)] → W p l e (rmq 1 22) s m args below meth c H locs 0 0 Q0 (F0 m 9 ls []) := by
    intro n
    induction n with
    | zero => intro t_at_w t_told_w x1 x2 x3 hF; rw [F_X8_number_9] at hF; cases hF
    | succ n ih =>
      intro t_at_w t_told_w x1 x2 x3 hF H locs hP hD hS ls hl
      rw [F_X8_number_9] at hF
      refine lv_iload_n hx hb dX8_number_9 rfl (lv_at hl 3 rfl) ?_
      refine lv_iload_n hx hb dX8_number_10 rfl (lv_at hl 2 rfl) ?_
      refine lv_icmp_ge (tgt := 85) hx hb dX8_number_11 (by decide) (fun c_11 => ?_) (fun c_11 => ?_)
      · have hF := ift hF c_11
        refine lv_iload_n hx hb dX8_number_85 rfl (lv_at hl 3 rfl) ?_
        refine lv_if_le (tgt := 93) hx hb dX8_number_86 (by decide) (fun c_86 => ?_) (fun c_86 => ?_)
        · have hF := ift hF c_86
          refine lv_iconst (v := 0) hx hb dX8_number_93 (by decide) ?_
          obtain ⟨e0_94, e1_94, e2_94⟩ := inj3 hF
          rw [← e0_94, ← e1_94, ← e2_94] at hQ0
          rw [hQ0]
          exact ret_z hx hb hr (by decide +kernel) hlocks hAe hK hP hD hS [0, 1, 2] rfl rfl dX8_number_94
        · have hF := iff_ hF c_86
          refine lv_iconst (v := 1) hx hb dX8_number_89 (by decide) ?_
          refine lv_goto (tgt := 94) hx hb dX8_number_90 (by decide) ?_
          obtain ⟨e0_94, e1_94, e2_94⟩ := inj3 hF
          rw [← e0_94, ← e1_94, ← e2_94] at hQ0
          rw [hQ0]
          exact ret_z hx hb hr (by decide +kernel) hlocks hAe hK hP hD hS [0, 1, 2] rfl rfl dX8_number_94
      · have hF := iff_ hF c_11
        refine lv_aload_n hx hb dX8_number_14 rfl (lv_at hl 0 rfl) ?_
        refine va_get (D := D) (ci := 12) (v := .int t_at_w) (C := RX8) (T := TX8) (N := 22) hx hb hts iX8_number_X8 hown hK hP 0 rfl rfl 10 (by decide) (hts (.fieldLink RX8 170 "SkipArchiveModel" "at" "I") (List.mem_of_getElem? (i := 2) rfl)) (fun _ h9 => h9) rfl dX8_number_15 ?_
        refine lv_aload_n hx hb dX8_number_18 rfl (lv_at hl 0 rfl) ?_
        refine va_get (D := D) (ci := 12) (v := .int t_length) (C := RX8) (T := TX8) (N := 22) hx hb hts iX8_number_X8 hown hK hP 0 rfl rfl 9 (by decide) (hts (.fieldLink RX8 167 "SkipArchiveModel" "length" "I") (List.mem_of_getElem? (i := 3) rfl)) (fun _ h9 => h9) rfl dX8_number_19 ?_
        refine lv_icmp_ge (tgt := 85) hx hb dX8_number_22 (by decide) (fun c_22 => ?_) (fun c_22 => ?_)
        · have hF := ift hF c_22
          refine lv_iload_n hx hb dX8_number_85 rfl (lv_at hl 3 rfl) ?_
          refine lv_if_le (tgt := 93) hx hb dX8_number_86 (by decide) (fun c_86b => ?_) (fun c_86b => ?_)
          · have hF := ift hF c_86b
            refine lv_iconst (v := 0) hx hb dX8_number_93 (by decide) ?_
            obtain ⟨e0_94, e1_94, e2_94⟩ := inj3 hF
            rw [← e0_94, ← e1_94, ← e2_94] at hQ0
            rw [hQ0]
            exact ret_z hx hb hr (by decide +kernel) hlocks hAe hK hP hD hS [0, 1, 2] rfl rfl dX8_number_94
          · have hF := iff_ hF c_86b
            refine lv_iconst (v := 1) hx hb dX8_number_89 (by decide) ?_
            refine lv_goto (tgt := 94) hx hb dX8_number_90 (by decide) ?_
            obtain ⟨e0_94, e1_94, e2_94⟩ := inj3 hF
            rw [← e0_94, ← e1_94, ← e2_94] at hQ0
            rw [hQ0]
            exact ret_z hx hb hr (by decide +kernel) hlocks hAe hK hP hD hS [0, 1, 2] rfl rfl dX8_number_94
        · have hF := iff_ hF c_22
          refine lv_aload_n hx hb dX8_number_25 rfl (lv_at hl 0 rfl) ?_
          refine va_get (D := D) (ci := 12) (v := .ref a_t_text) (C := RX8) (T := TX8) (N := 22) hx hb hts iX8_number_X8 hown hK hP 0 rfl rfl 8 (by decide) (hts (.fieldLink RX8 26 "SkipArchiveModel" "text" "[C") (List.mem_of_getElem? (i := 4) rfl)) (fun _ h9 => h9) rfl dX8_number_26 ?_
          refine lv_aload_n hx hb dX8_number_29 rfl (lv_at hl 0 rfl) ?_
          refine va_get (D := D) (ci := 12) (v := .int t_at_w) (C := RX8) (T := TX8) (N := 22) hx hb hts iX8_number_X8 hown hK hP 0 rfl rfl 10 (by decide) (hts (.fieldLink RX8 170 "SkipArchiveModel" "at" "I") (List.mem_of_getElem? (i := 2) rfl)) (fun _ h9 => h9) rfl dX8_number_30 ?_
          obtain ⟨g_33, hF⟩ := gi_i hF
          refine va_cald hx hb hK hP 1 1 rfl rfl g_33 dX8_number_33 ?_
          refine lv_bipush (v := 48) hx hb dX8_number_34 (by decide) ?_
          refine lv_bipush (v := 57) hx hb dX8_number_36 (by decide) ?_
          obtain ⟨r_38, hq_38, hF⟩ := bn_i hF
          refine cr_S (As := [.int (t_text t_at_w.toNatClampNeg), .int (48 : Int32), .int (57 : Int32)]) (rest := []) ⟨hx, hb, hml, hown, hts⟩ (c_X8_in l D y fl (t_text t_at_w.toNatClampNeg) (48 : Int32) (57 : Int32) r_38 hq_38) (va_cwS 3 hts gX8_number_X8_in rfl rfl rfl (by decide +kernel) ⟨Nat.le_of_ble_eq_true rfl, Nat.le_of_ble_eq_true rfl⟩) hK hP [] rfl rfl hl.1 rfl (Nat.le_of_ble_eq_true rfl) dX8_number_38 ⟨Nat.le_of_ble_eq_true rfl, Nat.le_of_ble_eq_true rfl⟩ ?_
          refine lv_if_eq (tgt := 85) hx hb dX8_number_41 (by decide) (fun c_41 => ?_) (fun c_41 => ?_)
          · have hF := ift hF c_41
            refine lv_iload_n hx hb dX8_number_85 rfl (lv_at hl 3 rfl) ?_
            refine lv_if_le (tgt := 93) hx hb dX8_number_86 (by decide) (fun c_86bb => ?_) (fun c_86bb => ?_)
            · have hF := ift hF c_86bb
              refine lv_iconst (v := 0) hx hb dX8_number_93 (by decide) ?_
              obtain ⟨e0_94, e1_94, e2_94⟩ := inj3 hF
              rw [← e0_94, ← e1_94, ← e2_94] at hQ0
              rw [hQ0]
              exact ret_z hx hb hr (by decide +kernel) hlocks hAe hK hP hD hS [0, 1, 2] rfl rfl dX8_number_94
            · have hF := iff_ hF c_86bb
              refine lv_iconst (v := 1) hx hb dX8_number_89 (by decide) ?_
              refine lv_goto (tgt := 94) hx hb dX8_number_90 (by decide) ?_
              obtain ⟨e0_94, e1_94, e2_94⟩ := inj3 hF
              rw [← e0_94, ← e1_94, ← e2_94] at hQ0
              rw [hQ0]
              exact ret_z hx hb hr (by decide +kernel) hlocks hAe hK hP hD hS [0, 1, 2] rfl rfl dX8_number_94
          · have hF := iff_ hF c_41
            refine lv_aload_n hx hb dX8_number_44 rfl (lv_at hl 0 rfl) ?_
            refine va_get (D := D) (ci := 12) (v := .ref a_t_told) (C := RX8) (T := TX8) (N := 22) hx hb hts iX8_number_X8 hown hK hP 0 rfl rfl 12 (by decide) (hts (.fieldLink RX8 29 "SkipArchiveModel" "told" "[I") (List.mem_of_getElem? (i := 1) rfl)) (fun _ h9 => h9) rfl dX8_number_45 ?_
            refine lv_iload_n hx hb dX8_number_48 rfl (lv_at hl 1 rfl) ?_
            refine lv_bipush (v := 10) hx hb dX8_number_49 (by decide) ?_
            refine lv_aload_n hx hb dX8_number_51 rfl (lv_at hl 0 rfl) ?_
            refine va_get (D := D) (ci := 12) (v := .ref a_t_told) (C := RX8) (T := TX8) (N := 22) hx hb hts iX8_number_X8 hown hK hP 0 rfl rfl 12 (by decide) (hts (.fieldLink RX8 29 "SkipArchiveModel" "told" "[I") (List.mem_of_getElem? (i := 1) rfl)) (fun _ h9 => h9) rfl dX8_number_52 ?_
            refine lv_iload_n hx hb dX8_number_55 rfl (lv_at hl 1 rfl) ?_
            obtain ⟨g_56, hF⟩ := gi_i hF
            refine va_iald hx hb hK hP 2 0 rfl rfl g_56 dX8_number_56 ?_
            refine lv_imul hx hb dX8_number_57 ?_
            refine lv_aload_n hx hb dX8_number_58 rfl (lv_at hl 0 rfl) ?_
            refine va_get (D := D) (ci := 12) (v := .ref a_t_text) (C := RX8) (T := TX8) (N := 22) hx hb hts iX8_number_X8 hown hK hP 0 rfl rfl 8 (by decide) (hts (.fieldLink RX8 26 "SkipArchiveModel" "text" "[C") (List.mem_of_getElem? (i := 4) rfl)) (fun _ h9 => h9) rfl dX8_number_59 ?_
            refine lv_aload_n hx hb dX8_number_62 rfl (lv_at hl 0 rfl) ?_
            refine lv_dup hx hb dX8_number_63 rfl ?_
            refine va_get (D := D) (ci := 12) (v := .int t_at_w) (C := RX8) (T := TX8) (N := 22) hx hb hts iX8_number_X8 hown hK hP 0 rfl rfl 10 (by decide) (hts (.fieldLink RX8 170 "SkipArchiveModel" "at" "I") (List.mem_of_getElem? (i := 2) rfl)) (fun _ h9 => h9) rfl dX8_number_64 ?_
            refine lv_dup_x1 hx hb dX8_number_67 rfl rfl ?_
            refine lv_iconst (v := 1) hx hb dX8_number_68 (by decide) ?_
            refine lv_iadd hx hb dX8_number_69 ?_
            refine va_put (D := D) (ci := 12) (v := .int (t_at_w + (1 : Int32))) (ty := .int) (C := RX8) (T := TX8) (N := 22) hx hb hts iX8_number_X8 tyX8 tyX8_ok nmX8 hown hK hP hD hS 0 rfl rfl 10 (by decide) (hts (.fieldLink RX8 170 "SkipArchiveModel" "at" "I") (List.mem_of_getElem? (i := 2) rfl)) (fun _ h9 => h9) rfl (by decide +kernel) rfl rfl (Nat.le_of_ble_eq_true rfl) dX8_number_70 (fun H locs hP hD hS => ?_)
            have hP : va_P D vwCl [(a_t, .inr (12, [.ref a_t_now, .ref a_t_tried, .ref a_t_kept, .int t_undos, .ref a_t_saved, .int t_isSaved, .ref a_t_line, .int t_lined, .ref a_t_text, .int t_length, .int (t_at_w + (1 : Int32)), .int t_order, .ref a_t_told, .int t_fault, .int t_reason, .int t_detail, .int t_index, .int t_answer, .int t_thrown, .ref a_t_way, .int t_went, .int t_fell])), (a_t_text, .inl (y 1, 60, .inl t_text)), (a_t_told, .inl (y 0, 3, .inl t_told_w))] H := hP
            have hD : va_D A [(a_t, .inr (12, [.ref a_t_now, .ref a_t_tried, .ref a_t_kept, .int t_undos, .ref a_t_saved, .int t_isSaved, .ref a_t_line, .int t_lined, .ref a_t_text, .int t_length, .int (t_at_w + (1 : Int32)), .int t_order, .ref a_t_told, .int t_fault, .int t_reason, .int t_detail, .int t_index, .int t_answer, .int t_thrown, .ref a_t_way, .int t_went, .int t_fell])), (a_t_text, .inl (y 1, 60, .inl t_text)), (a_t_told, .inl (y 0, 3, .inl t_told_w))] := hD
            obtain ⟨g_73, hF⟩ := gi_i hF
            refine va_cald hx hb hK hP 1 1 rfl rfl g_73 dX8_number_73 ?_
            refine lv_iadd hx hb dX8_number_74 ?_
            refine lv_bipush (v := 48) hx hb dX8_number_75 (by decide) ?_
            refine lv_isub hx hb dX8_number_77 ?_
            obtain ⟨g_78, hF⟩ := gi_i hF
            refine va_iast hx hb hK hP hD hS 2 0 rfl rfl g_78 dX8_number_78 (fun H locs hP hD hS => ?_)
            have hP : va_P D vwCl [(a_t, .inr (12, [.ref a_t_now, .ref a_t_tried, .ref a_t_kept, .int t_undos, .ref a_t_saved, .int t_isSaved, .ref a_t_line, .int t_lined, .ref a_t_text, .int t_length, .int (t_at_w + (1 : Int32)), .int t_order, .ref a_t_told, .int t_fault, .int t_reason, .int t_detail, .int t_index, .int t_answer, .int t_thrown, .ref a_t_way, .int t_went, .int t_fell])), (a_t_text, .inl (y 1, 60, .inl t_text)), (a_t_told, .inl (y 0, 3, .inl (upd t_told_w x1.toNatClampNeg ((((10 : Int32) * (t_told_w x1.toNatClampNeg)) + (t_text t_at_w.toNatClampNeg)) - (48 : Int32)))))] H := hP
            have hD : va_D A [(a_t, .inr (12, [.ref a_t_now, .ref a_t_tried, .ref a_t_kept, .int t_undos, .ref a_t_saved, .int t_isSaved, .ref a_t_line, .int t_lined, .ref a_t_text, .int t_length, .int (t_at_w + (1 : Int32)), .int t_order, .ref a_t_told, .int t_fault, .int t_reason, .int t_detail, .int t_index, .int t_answer, .int t_thrown, .ref a_t_way, .int t_went, .int t_fell])), (a_t_text, .inl (y 1, 60, .inl t_text)), (a_t_told, .inl (y 0, 3, .inl (upd t_told_w x1.toNatClampNeg ((((10 : Int32) * (t_told_w x1.toNatClampNeg)) + (t_text t_at_w.toNatClampNeg)) - (48 : Int32)))))] := hD
            refine lv_iinc (v := x3 + (1 : Int32)) (lv' := [(3, .int (x3 + (1 : Int32))), (0, .ref a_t), (1, .int x1), (2, .int x2)]) hx hb dX8_number_79 hl (k := 3) rfl rfl (by decide) rfl (fun ls hl => ?_)
            refine lv_goto (tgt := 9) hx hb dX8_number_82 (by decide) ?_
            exact ih (t_at_w + (1 : Int32)) (upd t_told_w x1.toNatClampNeg ((((10 : Int32) * (t_told_w x1.toNatClampNeg)) + (t_text t_at_w.toNatClampNeg)) - (48 : Int32))) x1 x2 (x3 + (1 : Int32)) hF _ _ hP hD hS ls (lv_sub hl [1, 2, 3, 0] rfl)
  refine W_entry hav (Nat.le_of_ble_eq_true rfl) (fun ls hl => ?_)
  have hl : lv_has ls 4 [(0, .ref a_t), (1, .int p1), (2, .int p2)] := hl
  refine lv_iconst (v := 0) hx hb dX8_number_0 (by decide) ?_
  refine lv_istore_n (lv' := [(3, .int (0 : Int32)), (0, .ref a_t), (1, .int p1), (2, .int p2)]) hx hb dX8_number_1 rfl hl (by decide) rfl (fun ls hl => ?_)
  refine lv_aload_n hx hb dX8_number_2 rfl (lv_at hl 1 rfl) ?_
  refine va_get (D := D) (ci := 12) (v := .ref a_t_told) (C := RX8) (T := TX8) (N := 22) hx hb hts iX8_number_X8 hown hK hP 0 rfl rfl 12 (by decide) (hts (.fieldLink RX8 29 "SkipArchiveModel" "told" "[I") (List.mem_of_getElem? (i := 1) rfl)) (fun _ h9 => h9) rfl dX8_number_3 ?_
  refine lv_iload_n hx hb dX8_number_6 rfl (lv_at hl 2 rfl) ?_
  refine lv_iconst (v := 0) hx hb dX8_number_7 (by decide) ?_
  obtain ⟨g_8, hF⟩ := gi_i hF
  refine va_iast hx hb hK hP hD hS 2 0 rfl rfl g_8 dX8_number_8 (fun H locs hP hD hS => ?_)
  have hP : va_P D vwCl [(a_t, .inr (12, [.ref a_t_now, .ref a_t_tried, .ref a_t_kept, .int t_undos, .ref a_t_saved, .int t_isSaved, .ref a_t_line, .int t_lined, .ref a_t_text, .int t_length, .int t_at, .int t_order, .ref a_t_told, .int t_fault, .int t_reason, .int t_detail, .int t_index, .int t_answer, .int t_thrown, .ref a_t_way, .int t_went, .int t_fell])), (a_t_text, .inl (y 1, 60, .inl t_text)), (a_t_told, .inl (y 0, 3, .inl (upd t_told p1.toNatClampNeg (0 : Int32))))] H := hP
  have hD : va_D A [(a_t, .inr (12, [.ref a_t_now, .ref a_t_tried, .ref a_t_kept, .int t_undos, .ref a_t_saved, .int t_isSaved, .ref a_t_line, .int t_lined, .ref a_t_text, .int t_length, .int t_at, .int t_order, .ref a_t_told, .int t_fault, .int t_reason, .int t_detail, .int t_index, .int t_answer, .int t_thrown, .ref a_t_way, .int t_went, .int t_fell])), (a_t_text, .inl (y 1, 60, .inl t_text)), (a_t_told, .inl (y 0, 3, .inl (upd t_told p1.toNatClampNeg (0 : Int32))))] := hD
  exact k_9 fl t_at (upd t_told p1.toNatClampNeg (0 : Int32)) p1 p2 (0 : Int32) hF _ _ hP hD hS ls (lv_sub hl [1, 2, 3, 0] rfl)
def F_X8_isCommand (fl : Nat) (t_length : Int32) (t_at : Int32) (t_order : Int32) (t_text : Nat → Int32) (t_told : Nat → Int32) : Option (Int32 × Int32 × Int32 × (Nat → Int32)) := if t_at = t_length then (some ((0 : Int32), t_at, t_order, t_told)) else (gi t_at 60 (gd (okC (t_text t_at.toNatClampNeg) = true) (gi (2 : Int32) 3 (if (t_text t_at.toNatClampNeg) = (43 : Int32) then (bn3 (F_X8_number fl t_length (t_at + (1 : Int32)) t_text (upd t_told (2 : Int32).toNatClampNeg (-1 : Int32)) (0 : Int32) (3 : Int32)) fun r_125 t_at_125 t_told_125 => if r_125 = 0 then (some ((0 : Int32), t_at_125, t_text t_at.toNatClampNeg, t_told_125)) else (bn2 (F_X8_sign fl t_length t_at_125 t_text (61 : Int32)) fun r_134 t_at_134 => if r_134 = 0 then (some ((0 : Int32), t_at_134, t_text t_at.toNatClampNeg, t_told_125)) else (bn3 (F_X8_number fl t_length t_at_134 t_text t_told_125 (1 : Int32) (2 : Int32)) fun r_143 t_at_143 t_told_143 => if r_143 = 0 then (some ((0 : Int32), t_at_143, t_text t_at.toNatClampNeg, t_told_143)) else (bn2 (F_X8_sign fl t_length t_at_143 t_text (94 : Int32)) fun r_152 t_at_152 => if r_152 = 0 then (some ((1 : Int32), t_at_152, t_text t_at.toNatClampNeg, t_told_143)) else (bn3 (F_X8_number fl t_length t_at_152 t_text t_told_143 (2 : Int32) (1 : Int32)) fun r_161 t_at_161 t_told_161 => if r_161 = 0 then (some ((0 : Int32), t_at_161, t_text t_at.toNatClampNeg, t_told_161)) else (some ((1 : Int32), t_at_161, t_text t_at.toNatClampNeg, t_told_161))))))) else (if (t_text t_at.toNatClampNeg) = (45 : Int32) then (bn3 (F_X8_number fl t_length (t_at + (1 : Int32)) t_text (upd t_told (2 : Int32).toNatClampNeg (-1 : Int32)) (0 : Int32) (3 : Int32)) fun r_186 t_at_186 t_told_186 => gd (okB r_186 = true) (some (r_186, t_at_186, t_text t_at.toNatClampNeg, t_told_186))) else (if (t_text t_at.toNatClampNeg) = (100 : Int32) then (bn3 (F_X8_number fl t_length (t_at + (1 : Int32)) t_text (upd t_told (2 : Int32).toNatClampNeg (-1 : Int32)) (0 : Int32) (3 : Int32)) fun r_186b t_at_186b t_told_186b => gd (okB r_186b = true) (some (r_186b, t_at_186b, t_text t_at.toNatClampNeg, t_told_186b))) else (if (t_text t_at.toNatClampNeg) = (102 : Int32) then (bn3 (F_X8_number fl t_length (t_at + (1 : Int32)) t_text (upd t_told (2 : Int32).toNatClampNeg (-1 : Int32)) (0 : Int32) (1 : Int32)) fun r_203 t_at_203 t_told_203 => gd (okB r_203 = true) (some (r_203, t_at_203, t_text t_at.toNatClampNeg, t_told_203))) else (if (t_text t_at.toNatClampNeg) = (114 : Int32) then (bn3 (F_X8_number fl t_length (t_at + (1 : Int32)) t_text (upd t_told (2 : Int32).toNatClampNeg (-1 : Int32)) (0 : Int32) (1 : Int32)) fun r_203b t_at_203b t_told_203b => gd (okB r_203b = true) (some (r_203b, t_at_203b, t_text t_at.toNatClampNeg, t_told_203b))) else (if (t_text t_at.toNatClampNeg) = (116 : Int32) then (some ((1 : Int32), t_at + (1 : Int32), t_text t_at.toNatClampNeg, upd t_told (2 : Int32).toNatClampNeg (-1 : Int32))) else (if (t_text t_at.toNatClampNeg) = (117 : Int32) then (bn3 (F_X8_number fl t_length (t_at + (1 : Int32)) t_text (upd t_told (2 : Int32).toNatClampNeg (-1 : Int32)) (0 : Int32) (3 : Int32)) fun r_186bb t_at_186bb t_told_186bb => gd (okB r_186bb = true) (some (r_186bb, t_at_186bb, t_text t_at.toNatClampNeg, t_told_186bb))) else (if (t_text t_at.toNatClampNeg) = (119 : Int32) then (bn3 (F_X8_number fl t_length (t_at + (1 : Int32)) t_text (upd t_told (2 : Int32).toNatClampNeg (-1 : Int32)) (0 : Int32) (3 : Int32)) fun r_220 t_at_220 t_told_220 => if r_220 = 0 then (some ((0 : Int32), t_at_220, t_text t_at.toNatClampNeg, t_told_220)) else (bn2 (F_X8_sign fl t_length t_at_220 t_text (61 : Int32)) fun r_229 t_at_229 => if r_229 = 0 then (some ((0 : Int32), t_at_229, t_text t_at.toNatClampNeg, t_told_220)) else (bn3 (F_X8_number fl t_length t_at_229 t_text t_told_220 (1 : Int32) (2 : Int32)) fun r_238 t_at_238 t_told_238 => if r_238 = 0 then (some ((0 : Int32), t_at_238, t_text t_at.toNatClampNeg, t_told_238)) else (some ((1 : Int32), t_at_238, t_text t_at.toNatClampNeg, t_told_238))))) else (some ((0 : Int32), t_at, t_text t_at.toNatClampNeg, upd t_told (2 : Int32).toNatClampNeg (-1 : Int32))))))))))))))
theorem iX8_isCommand_X8 : ∀ w ∈ u_ws RX8 TX8 22, w ∈ wsX8_isCommand := fun w h => List.mem_cons_of_mem _ (List.mem_append_left _ (List.mem_append_right _ h))
set_option maxHeartbeats 4000000 in
set_option maxRecDepth 100000 in
theorem c_X8_isCommand (l : Launch) (D : va_G) (y : Nat → ClassId) (fl : Nat) (sz : Nat) (a_t : Nat) (a_t_now : Nat) (a_t_tried : Nat) (a_t_kept : Nat) (a_t_saved : Nat) (a_t_line : Nat) (a_t_text : Nat) (a_t_told : Nat) (a_t_way : Nat) (t_undos : Int32) (t_isSaved : Int32) (t_lined : Int32) (t_length : Int32) (t_at : Int32) (t_order : Int32) (t_fault : Int32) (t_reason : Int32) (t_detail : Int32) (t_index : Int32) (t_answer : Int32) (t_thrown : Int32) (t_went : Int32) (t_fell : Int32) (t_text : Nat → Int32) (t_told : Nat → Int32) (r : Int32) (t_at' : Int32) (t_order' : Int32) (t_told' : Nat → Int32) (hF : F_X8_isCommand fl t_length t_at t_order t_text t_told = some (r, t_at', t_order', t_told')) : Met l yX8_isCommand wsX8_isCommand (rmq 2 45) (wrP D y [(a_t, .inr (12, [.ref a_t_now, .ref a_t_tried, .ref a_t_kept, .int t_undos, .ref a_t_saved, .int t_isSaved, .ref a_t_line, .int t_lined, .ref a_t_text, .int t_length, .int t_at, .int t_order, .ref a_t_told, .int t_fault, .int t_reason, .int t_detail, .int t_index, .int t_answer, .int t_thrown, .ref a_t_way, .int t_went, .int t_fell])), (a_t_text, .inl (y 1, 60, .inl t_text)), (a_t_told, .inl (y 0, 3, .inl t_told))] sz [.ref a_t]) (wQi D y r [(a_t, .inr (12, [.ref a_t_now, .ref a_t_tried, .ref a_t_kept, .int t_undos, .ref a_t_saved, .int t_isSaved, .ref a_t_line, .int t_lined, .ref a_t_text, .int t_length, .int t_at', .int t_order', .ref a_t_told, .int t_fault, .int t_reason, .int t_detail, .int t_index, .int t_answer, .int t_thrown, .ref a_t_way, .int t_went, .int t_fell])), (a_t_text, .inl (y 1, 60, .inl t_text)), (a_t_told, .inl (y 0, 3, .inl t_told'))] [(a_t, .inr (12, [.ref a_t_now, .ref a_t_tried, .ref a_t_kept, .int t_undos, .ref a_t_saved, .int t_isSaved, .ref a_t_line, .int t_lined, .ref a_t_text, .int t_length, .int t_at, .int t_order, .ref a_t_told, .int t_fault, .int t_reason, .int t_detail, .int t_index, .int t_answer, .int t_thrown, .ref a_t_way, .int t_went, .int t_fell])), (a_t_text, .inl (y 1, 60, .inl t_text)), (a_t_told, .inl (y 0, 3, .inl t_told))] sz) 0 0 (va_A [(a_t, .inr (12, [.ref a_t_now, .ref a_t_tried, .ref a_t_kept, .int t_undos, .ref a_t_saved, .int t_isSaved, .ref a_t_line, .int t_lined, .ref a_t_text, .int t_length, .int t_at, .int t_order, .ref a_t_told, .int t_fault, .int t_reason, .int t_detail, .int t_index, .int t_answer, .int t_thrown, .ref a_t_way, .int t_went, .int t_fell])), (a_t_text, .inl (y 1, 60, .inl t_text)), (a_t_told, .inl (y 0, 3, .inl t_told))] sz) := by
  refine Met.ofW (cc := cX8_isCommand) (maxL := 1) (ret := (some .boolean)) (by decide) rfl ?_
  intro p e s m args below meth c s₁ B hml hv
  obtain ⟨hav, hsz, hP, hK, hD0⟩ := hv
  have hx := B.exec
  have hb := B.bytes
  have hr := B.returns
  have hts := atoms_spec (ws := wsX8_isCommand) B.pre
  have hown : s.vm.findClass RX8 = some m.cls := findClass_of_methodNamed B.named
  have hlocks := B.notSynchronized
  subst hsz
  have hD := hD0.self (sz := s.heap.size)
  obtain ⟨A, hAe⟩ : ∃ A : Nat → Prop, va_A [(a_t, .inr (12, [.ref a_t_now, .ref a_t_tried, .ref a_t_kept, .int t_undos, .ref a_t_saved, .int t_isSaved, .ref a_t_line, .int t_lined, .ref a_t_text, .int t_length, .int t_at, .int t_order, .ref a_t_told, .int t_fault, .int t_reason, .int t_detail, .int t_index, .int t_answer, .int t_thrown, .ref a_t_way, .int t_went, .int t_fell])), (a_t_text, .inl (y 1, 60, .inl t_text)), (a_t_told, .inl (y 0, 3, .inl t_told))] s.heap.size = A := ⟨_, rfl⟩
  rw [hAe] at hD
  have hA : ∀ q, s.heap.size ≤ q → A q := fun q h => by rw [← hAe]; exact Or.inr h
  have hS : va_S A s.heap s.heap [] := va_S.rf
  refine W_q (R1 := (rmq 2 45)) rfl (fun Q0 hQ0 => ?_)
  unfold F_X8_isCommand at hF
  refine W_entry hav (Nat.le_of_ble_eq_true rfl) (fun ls hl => ?_)
  have hl : lv_has ls 1 [(0, .ref a_t)] := hl
  refine lv_aload_n hx hb dX8_isCommand_0 rfl (lv_at hl 0 rfl) ?_
  refine va_get (D := D) (ci := 12) (v := .int t_at) (C := RX8) (T := TX8) (N := 22) hx hb hts iX8_isCommand_X8 hown hK hP 0 rfl rfl 10 (by decide) (hts (.fieldLink RX8 170 "SkipArchiveModel" "at" "I") (List.mem_of_getElem? (i := 1) rfl)) (fun _ h9 => h9) rfl dX8_isCommand_1 ?_
  refine lv_aload_n hx hb dX8_isCommand_4 rfl (lv_at hl 0 rfl) ?_
  refine va_get (D := D) (ci := 12) (v := .int t_length) (C := RX8) (T := TX8) (N := 22) hx hb hts iX8_isCommand_X8 hown hK hP 0 rfl rfl 9 (by decide) (hts (.fieldLink RX8 167 "SkipArchiveModel" "length" "I") (List.mem_of_getElem? (i := 2) rfl)) (fun _ h9 => h9) rfl dX8_isCommand_5 ?_
  refine lv_icmp_ne (tgt := 13) hx hb dX8_isCommand_8 (by decide) (fun c_8 => ?_) (fun c_8 => ?_)
  · have hF := iff_ hF c_8
    refine lv_aload_n hx hb dX8_isCommand_13 rfl (lv_at hl 0 rfl) ?_
    refine lv_aload_n hx hb dX8_isCommand_14 rfl (lv_at hl 0 rfl) ?_
    refine va_get (D := D) (ci := 12) (v := .ref a_t_text) (C := RX8) (T := TX8) (N := 22) hx hb hts iX8_isCommand_X8 hown hK hP 0 rfl rfl 8 (by decide) (hts (.fieldLink RX8 26 "SkipArchiveModel" "text" "[C") (List.mem_of_getElem? (i := 3) rfl)) (fun _ h9 => h9) rfl dX8_isCommand_15 ?_
    refine lv_aload_n hx hb dX8_isCommand_18 rfl (lv_at hl 0 rfl) ?_
    refine va_get (D := D) (ci := 12) (v := .int t_at) (C := RX8) (T := TX8) (N := 22) hx hb hts iX8_isCommand_X8 hown hK hP 0 rfl rfl 10 (by decide) (hts (.fieldLink RX8 170 "SkipArchiveModel" "at" "I") (List.mem_of_getElem? (i := 1) rfl)) (fun _ h9 => h9) rfl dX8_isCommand_19 ?_
    obtain ⟨g_22, hF⟩ := gi_i hF
    refine va_cald hx hb hK hP 1 1 rfl rfl g_22 dX8_isCommand_22 ?_
    obtain ⟨g_23, hF⟩ := gd_i hF
    refine va_put (D := D) (ci := 12) (v := .int (t_text t_at.toNatClampNeg)) (ty := .char) (C := RX8) (T := TX8) (N := 22) hx hb hts iX8_isCommand_X8 tyX8 tyX8_ok nmX8 hown hK hP hD hS 0 rfl rfl 11 (by decide) (hts (.fieldLink RX8 173 "SkipArchiveModel" "order" "C") (List.mem_of_getElem? (i := 4) rfl)) (fun _ h9 => h9) rfl (by decide +kernel) (okC_n g_23).1 (okC_n g_23).2 (Nat.le_of_ble_eq_true rfl) dX8_isCommand_23 (fun H locs hP hD hS => ?_)
    have hP : va_P D vwCl [(a_t, .inr (12, [.ref a_t_now, .ref a_t_tried, .ref a_t_kept, .int t_undos, .ref a_t_saved, .int t_isSaved, .ref a_t_line, .int t_lined, .ref a_t_text, .int t_length, .int t_at, .int (t_text t_at.toNatClampNeg), .ref a_t_told, .int t_fault, .int t_reason, .int t_detail, .int t_index, .int t_answer, .int t_thrown, .ref a_t_way, .int t_went, .int t_fell])), (a_t_text, .inl (y 1, 60, .inl t_text)), (a_t_told, .inl (y 0, 3, .inl t_told))] H := hP
    have hD : va_D A [(a_t, .inr (12, [.ref a_t_now, .ref a_t_tried, .ref a_t_kept, .int t_undos, .ref a_t_saved, .int t_isSaved, .ref a_t_line, .int t_lined, .ref a_t_text, .int t_length, .int t_at, .int (t_text t_at.toNatClampNeg), .ref a_t_told, .int t_fault, .int t_reason, .int t_detail, .int t_index, .int t_answer, .int t_thrown, .ref a_t_way, .int t_went, .int t_fell])), (a_t_text, .inl (y 1, 60, .inl t_text)), (a_t_told, .inl (y 0, 3, .inl t_told))] := hD
    refine lv_aload_n hx hb dX8_isCommand_26 rfl (lv_at hl 0 rfl) ?_
    refine va_get (D := D) (ci := 12) (v := .ref a_t_told) (C := RX8) (T := TX8) (N := 22) hx hb hts iX8_isCommand_X8 hown hK hP 0 rfl rfl 12 (by decide) (hts (.fieldLink RX8 29 "SkipArchiveModel" "told" "[I") (List.mem_of_getElem? (i := 5) rfl)) (fun _ h9 => h9) rfl dX8_isCommand_27 ?_
    refine lv_iconst (v := 2) hx hb dX8_isCommand_30 (by decide) ?_
    refine lv_iconst (v := -1) hx hb dX8_isCommand_31 (by decide) ?_
    obtain ⟨g_32, hF⟩ := gi_i hF
    refine va_iast hx hb hK hP hD hS 2 0 rfl rfl g_32 dX8_isCommand_32 (fun H locs hP hD hS => ?_)
    have hP : va_P D vwCl [(a_t, .inr (12, [.ref a_t_now, .ref a_t_tried, .ref a_t_kept, .int t_undos, .ref a_t_saved, .int t_isSaved, .ref a_t_line, .int t_lined, .ref a_t_text, .int t_length, .int t_at, .int (t_text t_at.toNatClampNeg), .ref a_t_told, .int t_fault, .int t_reason, .int t_detail, .int t_index, .int t_answer, .int t_thrown, .ref a_t_way, .int t_went, .int t_fell])), (a_t_text, .inl (y 1, 60, .inl t_text)), (a_t_told, .inl (y 0, 3, .inl (upd t_told (2 : Int32).toNatClampNeg (-1 : Int32))))] H := hP
    have hD : va_D A [(a_t, .inr (12, [.ref a_t_now, .ref a_t_tried, .ref a_t_kept, .int t_undos, .ref a_t_saved, .int t_isSaved, .ref a_t_line, .int t_lined, .ref a_t_text, .int t_length, .int t_at, .int (t_text t_at.toNatClampNeg), .ref a_t_told, .int t_fault, .int t_reason, .int t_detail, .int t_index, .int t_answer, .int t_thrown, .ref a_t_way, .int t_went, .int t_fell])), (a_t_text, .inl (y 1, 60, .inl t_text)), (a_t_told, .inl (y 0, 3, .inl (upd t_told (2 : Int32).toNatClampNeg (-1 : Int32))))] := hD
    refine lv_aload_n hx hb dX8_isCommand_33 rfl (lv_at hl 0 rfl) ?_
    refine va_get (D := D) (ci := 12) (v := .int (t_text t_at.toNatClampNeg)) (C := RX8) (T := TX8) (N := 22) hx hb hts iX8_isCommand_X8 hown hK hP 0 rfl rfl 11 (by decide) (hts (.fieldLink RX8 173 "SkipArchiveModel" "order" "C") (List.mem_of_getElem? (i := 4) rfl)) (fun _ h9 => h9) rfl dX8_isCommand_34 ?_
    by_cases c43_37 : (t_text t_at.toNatClampNeg) = (43 : Int32)
    · have hF := ift hF c43_37
      refine lv_lookup (tgt := 112) hx hb dX8_isCommand_37 (by decide) (by first | (rw [c43_37]; done) | (rw [c43_37]; decide +kernel)) (by decide) ?_
      refine lv_aload_n hx hb dX8_isCommand_112 rfl (lv_at hl 0 rfl) ?_
      refine lv_dup hx hb dX8_isCommand_113 rfl ?_
      refine va_get (D := D) (ci := 12) (v := .int t_at) (C := RX8) (T := TX8) (N := 22) hx hb hts iX8_isCommand_X8 hown hK hP 0 rfl rfl 10 (by decide) (hts (.fieldLink RX8 170 "SkipArchiveModel" "at" "I") (List.mem_of_getElem? (i := 1) rfl)) (fun _ h9 => h9) rfl dX8_isCommand_114 ?_
      refine lv_iconst (v := 1) hx hb dX8_isCommand_117 (by decide) ?_
      refine lv_iadd hx hb dX8_isCommand_118 ?_
      refine va_put (D := D) (ci := 12) (v := .int (t_at + (1 : Int32))) (ty := .int) (C := RX8) (T := TX8) (N := 22) hx hb hts iX8_isCommand_X8 tyX8 tyX8_ok nmX8 hown hK hP hD hS 0 rfl rfl 10 (by decide) (hts (.fieldLink RX8 170 "SkipArchiveModel" "at" "I") (List.mem_of_getElem? (i := 1) rfl)) (fun _ h9 => h9) rfl (by decide +kernel) rfl rfl (Nat.le_of_ble_eq_true rfl) dX8_isCommand_119 (fun H locs hP hD hS => ?_)
      have hP : va_P D vwCl [(a_t, .inr (12, [.ref a_t_now, .ref a_t_tried, .ref a_t_kept, .int t_undos, .ref a_t_saved, .int t_isSaved, .ref a_t_line, .int t_lined, .ref a_t_text, .int t_length, .int (t_at + (1 : Int32)), .int (t_text t_at.toNatClampNeg), .ref a_t_told, .int t_fault, .int t_reason, .int t_detail, .int t_index, .int t_answer, .int t_thrown, .ref a_t_way, .int t_went, .int t_fell])), (a_t_text, .inl (y 1, 60, .inl t_text)), (a_t_told, .inl (y 0, 3, .inl (upd t_told (2 : Int32).toNatClampNeg (-1 : Int32))))] H := hP
      have hD : va_D A [(a_t, .inr (12, [.ref a_t_now, .ref a_t_tried, .ref a_t_kept, .int t_undos, .ref a_t_saved, .int t_isSaved, .ref a_t_line, .int t_lined, .ref a_t_text, .int t_length, .int (t_at + (1 : Int32)), .int (t_text t_at.toNatClampNeg), .ref a_t_told, .int t_fault, .int t_reason, .int t_detail, .int t_index, .int t_answer, .int t_thrown, .ref a_t_way, .int t_went, .int t_fell])), (a_t_text, .inl (y 1, 60, .inl t_text)), (a_t_told, .inl (y 0, 3, .inl (upd t_told (2 : Int32).toNatClampNeg (-1 : Int32))))] := hD
      refine lv_aload_n hx hb dX8_isCommand_122 rfl (lv_at hl 0 rfl) ?_
      refine lv_iconst (v := 0) hx hb dX8_isCommand_123 (by decide) ?_
      refine lv_iconst (v := 3) hx hb dX8_isCommand_124 (by decide) ?_
      obtain ⟨r_125, t_at_125, t_told_125, hq_125, hF⟩ := bn3_i hF
      refine cm_Vi (As := [.int (0 : Int32), .int (3 : Int32)]) (rest := []) (wr := []) ⟨hx, hb, hml, hown, hts⟩ (c_X8_number l D y fl H.size a_t a_t_now a_t_tried a_t_kept a_t_saved a_t_line a_t_text a_t_told a_t_way t_undos t_isSaved t_lined t_length (t_at + (1 : Int32)) (t_text t_at.toNatClampNeg) t_fault t_reason t_detail t_index t_answer t_thrown t_went t_fell t_text (upd t_told (2 : Int32).toNatClampNeg (-1 : Int32)) (0 : Int32) (3 : Int32) r_125 t_at_125 t_told_125 hq_125) (cwV 2 hts gX8_isCommand_X8_number rfl rfl rfl (by decide +kernel) ⟨Nat.le_of_ble_eq_true rfl, Nat.le_of_ble_eq_true rfl⟩) hK hP hD hS hA [0, 1, 2] [] rfl rfl rfl rfl (by decide) rfl rfl rfl hl.1 rfl (Nat.le_of_ble_eq_true rfl) dX8_isCommand_125 ⟨Nat.le_of_ble_eq_true rfl, Nat.le_of_ble_eq_true rfl⟩ (fun H locs hP hD hS => ?_)
      have hP : va_P D vwCl [(a_t, .inr (12, [.ref a_t_now, .ref a_t_tried, .ref a_t_kept, .int t_undos, .ref a_t_saved, .int t_isSaved, .ref a_t_line, .int t_lined, .ref a_t_text, .int t_length, .int t_at_125, .int (t_text t_at.toNatClampNeg), .ref a_t_told, .int t_fault, .int t_reason, .int t_detail, .int t_index, .int t_answer, .int t_thrown, .ref a_t_way, .int t_went, .int t_fell])), (a_t_text, .inl (y 1, 60, .inl t_text)), (a_t_told, .inl (y 0, 3, .inl t_told_125))] H := hP
      have hD : va_D A [(a_t, .inr (12, [.ref a_t_now, .ref a_t_tried, .ref a_t_kept, .int t_undos, .ref a_t_saved, .int t_isSaved, .ref a_t_line, .int t_lined, .ref a_t_text, .int t_length, .int t_at_125, .int (t_text t_at.toNatClampNeg), .ref a_t_told, .int t_fault, .int t_reason, .int t_detail, .int t_index, .int t_answer, .int t_thrown, .ref a_t_way, .int t_went, .int t_fell])), (a_t_text, .inl (y 1, 60, .inl t_text)), (a_t_told, .inl (y 0, 3, .inl t_told_125))] := hD
      refine lv_if_eq (tgt := 171) hx hb dX8_isCommand_128 (by decide) (fun c_128 => ?_) (fun c_128 => ?_)
      · have hF := ift hF c_128
        refine lv_iconst (v := 0) hx hb dX8_isCommand_171 (by decide) ?_
        obtain ⟨e0_172, e1_172, e2_172, e3_172⟩ := inj4 hF
        rw [← e0_172, ← e1_172, ← e2_172, ← e3_172] at hQ0
        rw [hQ0]
        exact ret_z hx hb hr (by decide +kernel) hlocks hAe hK hP hD hS [0, 1, 2] rfl rfl dX8_isCommand_172
      · have hF := iff_ hF c_128
        refine lv_aload_n hx hb dX8_isCommand_131 rfl (lv_at hl 0 rfl) ?_
        refine lv_bipush (v := 61) hx hb dX8_isCommand_132 (by decide) ?_
        obtain ⟨r_134, t_at_134, hq_134, hF⟩ := bn2_i hF
        refine cm_Vi (As := [.int (61 : Int32)]) (rest := []) (wr := [(a_t_told, .inl (y 0, 3, .inl t_told_125))]) ⟨hx, hb, hml, hown, hts⟩ (c_X8_sign l D y fl H.size a_t a_t_now a_t_tried a_t_kept a_t_saved a_t_line a_t_text a_t_told a_t_way t_undos t_isSaved t_lined t_length t_at_125 (t_text t_at.toNatClampNeg) t_fault t_reason t_detail t_index t_answer t_thrown t_went t_fell t_text (61 : Int32) r_134 t_at_134 hq_134) (cwV 1 hts gX8_isCommand_X8_sign rfl rfl rfl (by decide +kernel) ⟨Nat.le_of_ble_eq_true rfl, Nat.le_of_ble_eq_true rfl⟩) hK hP hD hS hA [0, 1] [2] rfl rfl rfl rfl (by decide) rfl rfl rfl hl.1 rfl (Nat.le_of_ble_eq_true rfl) dX8_isCommand_134 ⟨Nat.le_of_ble_eq_true rfl, Nat.le_of_ble_eq_true rfl⟩ (fun H locs hP hD hS => ?_)
        have hP : va_P D vwCl [(a_t_told, .inl (y 0, 3, .inl t_told_125)), (a_t, .inr (12, [.ref a_t_now, .ref a_t_tried, .ref a_t_kept, .int t_undos, .ref a_t_saved, .int t_isSaved, .ref a_t_line, .int t_lined, .ref a_t_text, .int t_length, .int t_at_134, .int (t_text t_at.toNatClampNeg), .ref a_t_told, .int t_fault, .int t_reason, .int t_detail, .int t_index, .int t_answer, .int t_thrown, .ref a_t_way, .int t_went, .int t_fell])), (a_t_text, .inl (y 1, 60, .inl t_text))] H := hP
        have hD : va_D A [(a_t_told, .inl (y 0, 3, .inl t_told_125)), (a_t, .inr (12, [.ref a_t_now, .ref a_t_tried, .ref a_t_kept, .int t_undos, .ref a_t_saved, .int t_isSaved, .ref a_t_line, .int t_lined, .ref a_t_text, .int t_length, .int t_at_134, .int (t_text t_at.toNatClampNeg), .ref a_t_told, .int t_fault, .int t_reason, .int t_detail, .int t_index, .int t_answer, .int t_thrown, .ref a_t_way, .int t_went, .int t_fell])), (a_t_text, .inl (y 1, 60, .inl t_text))] := hD
        refine lv_if_eq (tgt := 171) hx hb dX8_isCommand_137 (by decide) (fun c_137 => ?_) (fun c_137 => ?_)
        · have hF := ift hF c_137
          refine lv_iconst (v := 0) hx hb dX8_isCommand_171 (by decide) ?_
          obtain ⟨e0_172, e1_172, e2_172, e3_172⟩ := inj4 hF
          rw [← e0_172, ← e1_172, ← e2_172, ← e3_172] at hQ0
          rw [hQ0]
          exact ret_z hx hb hr (by decide +kernel) hlocks hAe hK hP hD hS [1, 2, 0] rfl rfl dX8_isCommand_172
        · have hF := iff_ hF c_137
          refine lv_aload_n hx hb dX8_isCommand_140 rfl (lv_at hl 0 rfl) ?_
          refine lv_iconst (v := 1) hx hb dX8_isCommand_141 (by decide) ?_
          refine lv_iconst (v := 2) hx hb dX8_isCommand_142 (by decide) ?_
          obtain ⟨r_143, t_at_143, t_told_143, hq_143, hF⟩ := bn3_i hF
          refine cm_Vi (As := [.int (1 : Int32), .int (2 : Int32)]) (rest := []) (wr := []) ⟨hx, hb, hml, hown, hts⟩ (c_X8_number l D y fl H.size a_t a_t_now a_t_tried a_t_kept a_t_saved a_t_line a_t_text a_t_told a_t_way t_undos t_isSaved t_lined t_length t_at_134 (t_text t_at.toNatClampNeg) t_fault t_reason t_detail t_index t_answer t_thrown t_went t_fell t_text t_told_125 (1 : Int32) (2 : Int32) r_143 t_at_143 t_told_143 hq_143) (cwV 2 hts gX8_isCommand_X8_number rfl rfl rfl (by decide +kernel) ⟨Nat.le_of_ble_eq_true rfl, Nat.le_of_ble_eq_true rfl⟩) hK hP hD hS hA [1, 2, 0] [] rfl rfl rfl rfl (by decide) rfl rfl rfl hl.1 rfl (Nat.le_of_ble_eq_true rfl) dX8_isCommand_143 ⟨Nat.le_of_ble_eq_true rfl, Nat.le_of_ble_eq_true rfl⟩ (fun H locs hP hD hS => ?_)
          have hP : va_P D vwCl [(a_t, .inr (12, [.ref a_t_now, .ref a_t_tried, .ref a_t_kept, .int t_undos, .ref a_t_saved, .int t_isSaved, .ref a_t_line, .int t_lined, .ref a_t_text, .int t_length, .int t_at_143, .int (t_text t_at.toNatClampNeg), .ref a_t_told, .int t_fault, .int t_reason, .int t_detail, .int t_index, .int t_answer, .int t_thrown, .ref a_t_way, .int t_went, .int t_fell])), (a_t_text, .inl (y 1, 60, .inl t_text)), (a_t_told, .inl (y 0, 3, .inl t_told_143))] H := hP
          have hD : va_D A [(a_t, .inr (12, [.ref a_t_now, .ref a_t_tried, .ref a_t_kept, .int t_undos, .ref a_t_saved, .int t_isSaved, .ref a_t_line, .int t_lined, .ref a_t_text, .int t_length, .int t_at_143, .int (t_text t_at.toNatClampNeg), .ref a_t_told, .int t_fault, .int t_reason, .int t_detail, .int t_index, .int t_answer, .int t_thrown, .ref a_t_way, .int t_went, .int t_fell])), (a_t_text, .inl (y 1, 60, .inl t_text)), (a_t_told, .inl (y 0, 3, .inl t_told_143))] := hD
          refine lv_if_eq (tgt := 171) hx hb dX8_isCommand_146 (by decide) (fun c_146 => ?_) (fun c_146 => ?_)
          · have hF := ift hF c_146
            refine lv_iconst (v := 0) hx hb dX8_isCommand_171 (by decide) ?_
            obtain ⟨e0_172, e1_172, e2_172, e3_172⟩ := inj4 hF
            rw [← e0_172, ← e1_172, ← e2_172, ← e3_172] at hQ0
            rw [hQ0]
            exact ret_z hx hb hr (by decide +kernel) hlocks hAe hK hP hD hS [0, 1, 2] rfl rfl dX8_isCommand_172
          · have hF := iff_ hF c_146
            refine lv_aload_n hx hb dX8_isCommand_149 rfl (lv_at hl 0 rfl) ?_
            refine lv_bipush (v := 94) hx hb dX8_isCommand_150 (by decide) ?_
            obtain ⟨r_152, t_at_152, hq_152, hF⟩ := bn2_i hF
            refine cm_Vi (As := [.int (94 : Int32)]) (rest := []) (wr := [(a_t_told, .inl (y 0, 3, .inl t_told_143))]) ⟨hx, hb, hml, hown, hts⟩ (c_X8_sign l D y fl H.size a_t a_t_now a_t_tried a_t_kept a_t_saved a_t_line a_t_text a_t_told a_t_way t_undos t_isSaved t_lined t_length t_at_143 (t_text t_at.toNatClampNeg) t_fault t_reason t_detail t_index t_answer t_thrown t_went t_fell t_text (94 : Int32) r_152 t_at_152 hq_152) (cwV 1 hts gX8_isCommand_X8_sign rfl rfl rfl (by decide +kernel) ⟨Nat.le_of_ble_eq_true rfl, Nat.le_of_ble_eq_true rfl⟩) hK hP hD hS hA [0, 1] [2] rfl rfl rfl rfl (by decide) rfl rfl rfl hl.1 rfl (Nat.le_of_ble_eq_true rfl) dX8_isCommand_152 ⟨Nat.le_of_ble_eq_true rfl, Nat.le_of_ble_eq_true rfl⟩ (fun H locs hP hD hS => ?_)
            have hP : va_P D vwCl [(a_t_told, .inl (y 0, 3, .inl t_told_143)), (a_t, .inr (12, [.ref a_t_now, .ref a_t_tried, .ref a_t_kept, .int t_undos, .ref a_t_saved, .int t_isSaved, .ref a_t_line, .int t_lined, .ref a_t_text, .int t_length, .int t_at_152, .int (t_text t_at.toNatClampNeg), .ref a_t_told, .int t_fault, .int t_reason, .int t_detail, .int t_index, .int t_answer, .int t_thrown, .ref a_t_way, .int t_went, .int t_fell])), (a_t_text, .inl (y 1, 60, .inl t_text))] H := hP
            have hD : va_D A [(a_t_told, .inl (y 0, 3, .inl t_told_143)), (a_t, .inr (12, [.ref a_t_now, .ref a_t_tried, .ref a_t_kept, .int t_undos, .ref a_t_saved, .int t_isSaved, .ref a_t_line, .int t_lined, .ref a_t_text, .int t_length, .int t_at_152, .int (t_text t_at.toNatClampNeg), .ref a_t_told, .int t_fault, .int t_reason, .int t_detail, .int t_index, .int t_answer, .int t_thrown, .ref a_t_way, .int t_went, .int t_fell])), (a_t_text, .inl (y 1, 60, .inl t_text))] := hD
            refine lv_if_eq (tgt := 167) hx hb dX8_isCommand_155 (by decide) (fun c_155 => ?_) (fun c_155 => ?_)
            · have hF := ift hF c_155
              refine lv_iconst (v := 1) hx hb dX8_isCommand_167 (by decide) ?_
              refine lv_goto (tgt := 172) hx hb dX8_isCommand_168 (by decide) ?_
              obtain ⟨e0_172, e1_172, e2_172, e3_172⟩ := inj4 hF
              rw [← e0_172, ← e1_172, ← e2_172, ← e3_172] at hQ0
              rw [hQ0]
              exact ret_z hx hb hr (by decide +kernel) hlocks hAe hK hP hD hS [1, 2, 0] rfl rfl dX8_isCommand_172
            · have hF := iff_ hF c_155
              refine lv_aload_n hx hb dX8_isCommand_158 rfl (lv_at hl 0 rfl) ?_
              refine lv_iconst (v := 2) hx hb dX8_isCommand_159 (by decide) ?_
              refine lv_iconst (v := 1) hx hb dX8_isCommand_160 (by decide) ?_
              obtain ⟨r_161, t_at_161, t_told_161, hq_161, hF⟩ := bn3_i hF
              refine cm_Vi (As := [.int (2 : Int32), .int (1 : Int32)]) (rest := []) (wr := []) ⟨hx, hb, hml, hown, hts⟩ (c_X8_number l D y fl H.size a_t a_t_now a_t_tried a_t_kept a_t_saved a_t_line a_t_text a_t_told a_t_way t_undos t_isSaved t_lined t_length t_at_152 (t_text t_at.toNatClampNeg) t_fault t_reason t_detail t_index t_answer t_thrown t_went t_fell t_text t_told_143 (2 : Int32) (1 : Int32) r_161 t_at_161 t_told_161 hq_161) (cwV 2 hts gX8_isCommand_X8_number rfl rfl rfl (by decide +kernel) ⟨Nat.le_of_ble_eq_true rfl, Nat.le_of_ble_eq_true rfl⟩) hK hP hD hS hA [1, 2, 0] [] rfl rfl rfl rfl (by decide) rfl rfl rfl hl.1 rfl (Nat.le_of_ble_eq_true rfl) dX8_isCommand_161 ⟨Nat.le_of_ble_eq_true rfl, Nat.le_of_ble_eq_true rfl⟩ (fun H locs hP hD hS => ?_)
              have hP : va_P D vwCl [(a_t, .inr (12, [.ref a_t_now, .ref a_t_tried, .ref a_t_kept, .int t_undos, .ref a_t_saved, .int t_isSaved, .ref a_t_line, .int t_lined, .ref a_t_text, .int t_length, .int t_at_161, .int (t_text t_at.toNatClampNeg), .ref a_t_told, .int t_fault, .int t_reason, .int t_detail, .int t_index, .int t_answer, .int t_thrown, .ref a_t_way, .int t_went, .int t_fell])), (a_t_text, .inl (y 1, 60, .inl t_text)), (a_t_told, .inl (y 0, 3, .inl t_told_161))] H := hP
              have hD : va_D A [(a_t, .inr (12, [.ref a_t_now, .ref a_t_tried, .ref a_t_kept, .int t_undos, .ref a_t_saved, .int t_isSaved, .ref a_t_line, .int t_lined, .ref a_t_text, .int t_length, .int t_at_161, .int (t_text t_at.toNatClampNeg), .ref a_t_told, .int t_fault, .int t_reason, .int t_detail, .int t_index, .int t_answer, .int t_thrown, .ref a_t_way, .int t_went, .int t_fell])), (a_t_text, .inl (y 1, 60, .inl t_text)), (a_t_told, .inl (y 0, 3, .inl t_told_161))] := hD
              refine lv_if_eq (tgt := 171) hx hb dX8_isCommand_164 (by decide) (fun c_164 => ?_) (fun c_164 => ?_)
              · have hF := ift hF c_164
                refine lv_iconst (v := 0) hx hb dX8_isCommand_171 (by decide) ?_
                obtain ⟨e0_172, e1_172, e2_172, e3_172⟩ := inj4 hF
                rw [← e0_172, ← e1_172, ← e2_172, ← e3_172] at hQ0
                rw [hQ0]
                exact ret_z hx hb hr (by decide +kernel) hlocks hAe hK hP hD hS [0, 1, 2] rfl rfl dX8_isCommand_172
              · have hF := iff_ hF c_164
                refine lv_iconst (v := 1) hx hb dX8_isCommand_167 (by decide) ?_
                refine lv_goto (tgt := 172) hx hb dX8_isCommand_168 (by decide) ?_
                obtain ⟨e0_172, e1_172, e2_172, e3_172⟩ := inj4 hF
                rw [← e0_172, ← e1_172, ← e2_172, ← e3_172] at hQ0
                rw [hQ0]
                exact ret_z hx hb hr (by decide +kernel) hlocks hAe hK hP hD hS [0, 1, 2] rfl rfl dX8_isCommand_172
    · have hF := iff_ hF c43_37
      by_cases c45_37 : (t_text t_at.toNatClampNeg) = (45 : Int32)
      · have hF := ift hF c45_37
        refine lv_lookup (tgt := 173) hx hb dX8_isCommand_37 (by decide) (by first | (rw [c45_37]; done) | (rw [c45_37]; decide +kernel)) (by decide) ?_
        refine lv_aload_n hx hb dX8_isCommand_173 rfl (lv_at hl 0 rfl) ?_
        refine lv_dup hx hb dX8_isCommand_174 rfl ?_
        refine va_get (D := D) (ci := 12) (v := .int t_at) (C := RX8) (T := TX8) (N := 22) hx hb hts iX8_isCommand_X8 hown hK hP 0 rfl rfl 10 (by decide) (hts (.fieldLink RX8 170 "SkipArchiveModel" "at" "I") (List.mem_of_getElem? (i := 1) rfl)) (fun _ h9 => h9) rfl dX8_isCommand_175 ?_
        refine lv_iconst (v := 1) hx hb dX8_isCommand_178 (by decide) ?_
        refine lv_iadd hx hb dX8_isCommand_179 ?_
        refine va_put (D := D) (ci := 12) (v := .int (t_at + (1 : Int32))) (ty := .int) (C := RX8) (T := TX8) (N := 22) hx hb hts iX8_isCommand_X8 tyX8 tyX8_ok nmX8 hown hK hP hD hS 0 rfl rfl 10 (by decide) (hts (.fieldLink RX8 170 "SkipArchiveModel" "at" "I") (List.mem_of_getElem? (i := 1) rfl)) (fun _ h9 => h9) rfl (by decide +kernel) rfl rfl (Nat.le_of_ble_eq_true rfl) dX8_isCommand_180 (fun H locs hP hD hS => ?_)
        have hP : va_P D vwCl [(a_t, .inr (12, [.ref a_t_now, .ref a_t_tried, .ref a_t_kept, .int t_undos, .ref a_t_saved, .int t_isSaved, .ref a_t_line, .int t_lined, .ref a_t_text, .int t_length, .int (t_at + (1 : Int32)), .int (t_text t_at.toNatClampNeg), .ref a_t_told, .int t_fault, .int t_reason, .int t_detail, .int t_index, .int t_answer, .int t_thrown, .ref a_t_way, .int t_went, .int t_fell])), (a_t_text, .inl (y 1, 60, .inl t_text)), (a_t_told, .inl (y 0, 3, .inl (upd t_told (2 : Int32).toNatClampNeg (-1 : Int32))))] H := hP
        have hD : va_D A [(a_t, .inr (12, [.ref a_t_now, .ref a_t_tried, .ref a_t_kept, .int t_undos, .ref a_t_saved, .int t_isSaved, .ref a_t_line, .int t_lined, .ref a_t_text, .int t_length, .int (t_at + (1 : Int32)), .int (t_text t_at.toNatClampNeg), .ref a_t_told, .int t_fault, .int t_reason, .int t_detail, .int t_index, .int t_answer, .int t_thrown, .ref a_t_way, .int t_went, .int t_fell])), (a_t_text, .inl (y 1, 60, .inl t_text)), (a_t_told, .inl (y 0, 3, .inl (upd t_told (2 : Int32).toNatClampNeg (-1 : Int32))))] := hD
        refine lv_aload_n hx hb dX8_isCommand_183 rfl (lv_at hl 0 rfl) ?_
        refine lv_iconst (v := 0) hx hb dX8_isCommand_184 (by decide) ?_
        refine lv_iconst (v := 3) hx hb dX8_isCommand_185 (by decide) ?_
        obtain ⟨r_186, t_at_186, t_told_186, hq_186, hF⟩ := bn3_i hF
        refine cm_Vi (As := [.int (0 : Int32), .int (3 : Int32)]) (rest := []) (wr := []) ⟨hx, hb, hml, hown, hts⟩ (c_X8_number l D y fl H.size a_t a_t_now a_t_tried a_t_kept a_t_saved a_t_line a_t_text a_t_told a_t_way t_undos t_isSaved t_lined t_length (t_at + (1 : Int32)) (t_text t_at.toNatClampNeg) t_fault t_reason t_detail t_index t_answer t_thrown t_went t_fell t_text (upd t_told (2 : Int32).toNatClampNeg (-1 : Int32)) (0 : Int32) (3 : Int32) r_186 t_at_186 t_told_186 hq_186) (cwV 2 hts gX8_isCommand_X8_number rfl rfl rfl (by decide +kernel) ⟨Nat.le_of_ble_eq_true rfl, Nat.le_of_ble_eq_true rfl⟩) hK hP hD hS hA [0, 1, 2] [] rfl rfl rfl rfl (by decide) rfl rfl rfl hl.1 rfl (Nat.le_of_ble_eq_true rfl) dX8_isCommand_186 ⟨Nat.le_of_ble_eq_true rfl, Nat.le_of_ble_eq_true rfl⟩ (fun H locs hP hD hS => ?_)
        have hP : va_P D vwCl [(a_t, .inr (12, [.ref a_t_now, .ref a_t_tried, .ref a_t_kept, .int t_undos, .ref a_t_saved, .int t_isSaved, .ref a_t_line, .int t_lined, .ref a_t_text, .int t_length, .int t_at_186, .int (t_text t_at.toNatClampNeg), .ref a_t_told, .int t_fault, .int t_reason, .int t_detail, .int t_index, .int t_answer, .int t_thrown, .ref a_t_way, .int t_went, .int t_fell])), (a_t_text, .inl (y 1, 60, .inl t_text)), (a_t_told, .inl (y 0, 3, .inl t_told_186))] H := hP
        have hD : va_D A [(a_t, .inr (12, [.ref a_t_now, .ref a_t_tried, .ref a_t_kept, .int t_undos, .ref a_t_saved, .int t_isSaved, .ref a_t_line, .int t_lined, .ref a_t_text, .int t_length, .int t_at_186, .int (t_text t_at.toNatClampNeg), .ref a_t_told, .int t_fault, .int t_reason, .int t_detail, .int t_index, .int t_answer, .int t_thrown, .ref a_t_way, .int t_went, .int t_fell])), (a_t_text, .inl (y 1, 60, .inl t_text)), (a_t_told, .inl (y 0, 3, .inl t_told_186))] := hD
        obtain ⟨g_189, hF⟩ := gd_i hF
        obtain ⟨e0_189, e1_189, e2_189, e3_189⟩ := inj4 hF
        rw [← e0_189, ← e1_189, ← e2_189, ← e3_189] at hQ0
        rw [hQ0]
        exact ret_z hx hb hr (okB_n g_189).1 hlocks hAe hK hP hD hS [0, 1, 2] rfl rfl dX8_isCommand_189
      · have hF := iff_ hF c45_37
        by_cases c100_37 : (t_text t_at.toNatClampNeg) = (100 : Int32)
        · have hF := ift hF c100_37
          refine lv_lookup (tgt := 173) hx hb dX8_isCommand_37 (by decide) (by first | (rw [c100_37]; done) | (rw [c100_37]; decide +kernel)) (by decide) ?_
          refine lv_aload_n hx hb dX8_isCommand_173 rfl (lv_at hl 0 rfl) ?_
          refine lv_dup hx hb dX8_isCommand_174 rfl ?_
          refine va_get (D := D) (ci := 12) (v := .int t_at) (C := RX8) (T := TX8) (N := 22) hx hb hts iX8_isCommand_X8 hown hK hP 0 rfl rfl 10 (by decide) (hts (.fieldLink RX8 170 "SkipArchiveModel" "at" "I") (List.mem_of_getElem? (i := 1) rfl)) (fun _ h9 => h9) rfl dX8_isCommand_175 ?_
          refine lv_iconst (v := 1) hx hb dX8_isCommand_178 (by decide) ?_
          refine lv_iadd hx hb dX8_isCommand_179 ?_
          refine va_put (D := D) (ci := 12) (v := .int (t_at + (1 : Int32))) (ty := .int) (C := RX8) (T := TX8) (N := 22) hx hb hts iX8_isCommand_X8 tyX8 tyX8_ok nmX8 hown hK hP hD hS 0 rfl rfl 10 (by decide) (hts (.fieldLink RX8 170 "SkipArchiveModel" "at" "I") (List.mem_of_getElem? (i := 1) rfl)) (fun _ h9 => h9) rfl (by decide +kernel) rfl rfl (Nat.le_of_ble_eq_true rfl) dX8_isCommand_180 (fun H locs hP hD hS => ?_)
          have hP : va_P D vwCl [(a_t, .inr (12, [.ref a_t_now, .ref a_t_tried, .ref a_t_kept, .int t_undos, .ref a_t_saved, .int t_isSaved, .ref a_t_line, .int t_lined, .ref a_t_text, .int t_length, .int (t_at + (1 : Int32)), .int (t_text t_at.toNatClampNeg), .ref a_t_told, .int t_fault, .int t_reason, .int t_detail, .int t_index, .int t_answer, .int t_thrown, .ref a_t_way, .int t_went, .int t_fell])), (a_t_text, .inl (y 1, 60, .inl t_text)), (a_t_told, .inl (y 0, 3, .inl (upd t_told (2 : Int32).toNatClampNeg (-1 : Int32))))] H := hP
          have hD : va_D A [(a_t, .inr (12, [.ref a_t_now, .ref a_t_tried, .ref a_t_kept, .int t_undos, .ref a_t_saved, .int t_isSaved, .ref a_t_line, .int t_lined, .ref a_t_text, .int t_length, .int (t_at + (1 : Int32)), .int (t_text t_at.toNatClampNeg), .ref a_t_told, .int t_fault, .int t_reason, .int t_detail, .int t_index, .int t_answer, .int t_thrown, .ref a_t_way, .int t_went, .int t_fell])), (a_t_text, .inl (y 1, 60, .inl t_text)), (a_t_told, .inl (y 0, 3, .inl (upd t_told (2 : Int32).toNatClampNeg (-1 : Int32))))] := hD
          refine lv_aload_n hx hb dX8_isCommand_183 rfl (lv_at hl 0 rfl) ?_
          refine lv_iconst (v := 0) hx hb dX8_isCommand_184 (by decide) ?_
          refine lv_iconst (v := 3) hx hb dX8_isCommand_185 (by decide) ?_
          obtain ⟨r_186b, t_at_186b, t_told_186b, hq_186b, hF⟩ := bn3_i hF
          refine cm_Vi (As := [.int (0 : Int32), .int (3 : Int32)]) (rest := []) (wr := []) ⟨hx, hb, hml, hown, hts⟩ (c_X8_number l D y fl H.size a_t a_t_now a_t_tried a_t_kept a_t_saved a_t_line a_t_text a_t_told a_t_way t_undos t_isSaved t_lined t_length (t_at + (1 : Int32)) (t_text t_at.toNatClampNeg) t_fault t_reason t_detail t_index t_answer t_thrown t_went t_fell t_text (upd t_told (2 : Int32).toNatClampNeg (-1 : Int32)) (0 : Int32) (3 : Int32) r_186b t_at_186b t_told_186b hq_186b) (cwV 2 hts gX8_isCommand_X8_number rfl rfl rfl (by decide +kernel) ⟨Nat.le_of_ble_eq_true rfl, Nat.le_of_ble_eq_true rfl⟩) hK hP hD hS hA [0, 1, 2] [] rfl rfl rfl rfl (by decide) rfl rfl rfl hl.1 rfl (Nat.le_of_ble_eq_true rfl) dX8_isCommand_186 ⟨Nat.le_of_ble_eq_true rfl, Nat.le_of_ble_eq_true rfl⟩ (fun H locs hP hD hS => ?_)
          have hP : va_P D vwCl [(a_t, .inr (12, [.ref a_t_now, .ref a_t_tried, .ref a_t_kept, .int t_undos, .ref a_t_saved, .int t_isSaved, .ref a_t_line, .int t_lined, .ref a_t_text, .int t_length, .int t_at_186b, .int (t_text t_at.toNatClampNeg), .ref a_t_told, .int t_fault, .int t_reason, .int t_detail, .int t_index, .int t_answer, .int t_thrown, .ref a_t_way, .int t_went, .int t_fell])), (a_t_text, .inl (y 1, 60, .inl t_text)), (a_t_told, .inl (y 0, 3, .inl t_told_186b))] H := hP
          have hD : va_D A [(a_t, .inr (12, [.ref a_t_now, .ref a_t_tried, .ref a_t_kept, .int t_undos, .ref a_t_saved, .int t_isSaved, .ref a_t_line, .int t_lined, .ref a_t_text, .int t_length, .int t_at_186b, .int (t_text t_at.toNatClampNeg), .ref a_t_told, .int t_fault, .int t_reason, .int t_detail, .int t_index, .int t_answer, .int t_thrown, .ref a_t_way, .int t_went, .int t_fell])), (a_t_text, .inl (y 1, 60, .inl t_text)), (a_t_told, .inl (y 0, 3, .inl t_told_186b))] := hD
          obtain ⟨g_189b, hF⟩ := gd_i hF
          obtain ⟨e0_189, e1_189, e2_189, e3_189⟩ := inj4 hF
          rw [← e0_189, ← e1_189, ← e2_189, ← e3_189] at hQ0
          rw [hQ0]
          exact ret_z hx hb hr (okB_n g_189b).1 hlocks hAe hK hP hD hS [0, 1, 2] rfl rfl dX8_isCommand_189
        · have hF := iff_ hF c100_37
          by_cases c102_37 : (t_text t_at.toNatClampNeg) = (102 : Int32)
          · have hF := ift hF c102_37
            refine lv_lookup (tgt := 190) hx hb dX8_isCommand_37 (by decide) (by first | (rw [c102_37]; done) | (rw [c102_37]; decide +kernel)) (by decide) ?_
            refine lv_aload_n hx hb dX8_isCommand_190 rfl (lv_at hl 0 rfl) ?_
            refine lv_dup hx hb dX8_isCommand_191 rfl ?_
            refine va_get (D := D) (ci := 12) (v := .int t_at) (C := RX8) (T := TX8) (N := 22) hx hb hts iX8_isCommand_X8 hown hK hP 0 rfl rfl 10 (by decide) (hts (.fieldLink RX8 170 "SkipArchiveModel" "at" "I") (List.mem_of_getElem? (i := 1) rfl)) (fun _ h9 => h9) rfl dX8_isCommand_192 ?_
            refine lv_iconst (v := 1) hx hb dX8_isCommand_195 (by decide) ?_
            refine lv_iadd hx hb dX8_isCommand_196 ?_
            refine va_put (D := D) (ci := 12) (v := .int (t_at + (1 : Int32))) (ty := .int) (C := RX8) (T := TX8) (N := 22) hx hb hts iX8_isCommand_X8 tyX8 tyX8_ok nmX8 hown hK hP hD hS 0 rfl rfl 10 (by decide) (hts (.fieldLink RX8 170 "SkipArchiveModel" "at" "I") (List.mem_of_getElem? (i := 1) rfl)) (fun _ h9 => h9) rfl (by decide +kernel) rfl rfl (Nat.le_of_ble_eq_true rfl) dX8_isCommand_197 (fun H locs hP hD hS => ?_)
            have hP : va_P D vwCl [(a_t, .inr (12, [.ref a_t_now, .ref a_t_tried, .ref a_t_kept, .int t_undos, .ref a_t_saved, .int t_isSaved, .ref a_t_line, .int t_lined, .ref a_t_text, .int t_length, .int (t_at + (1 : Int32)), .int (t_text t_at.toNatClampNeg), .ref a_t_told, .int t_fault, .int t_reason, .int t_detail, .int t_index, .int t_answer, .int t_thrown, .ref a_t_way, .int t_went, .int t_fell])), (a_t_text, .inl (y 1, 60, .inl t_text)), (a_t_told, .inl (y 0, 3, .inl (upd t_told (2 : Int32).toNatClampNeg (-1 : Int32))))] H := hP
            have hD : va_D A [(a_t, .inr (12, [.ref a_t_now, .ref a_t_tried, .ref a_t_kept, .int t_undos, .ref a_t_saved, .int t_isSaved, .ref a_t_line, .int t_lined, .ref a_t_text, .int t_length, .int (t_at + (1 : Int32)), .int (t_text t_at.toNatClampNeg), .ref a_t_told, .int t_fault, .int t_reason, .int t_detail, .int t_index, .int t_answer, .int t_thrown, .ref a_t_way, .int t_went, .int t_fell])), (a_t_text, .inl (y 1, 60, .inl t_text)), (a_t_told, .inl (y 0, 3, .inl (upd t_told (2 : Int32).toNatClampNeg (-1 : Int32))))] := hD
            refine lv_aload_n hx hb dX8_isCommand_200 rfl (lv_at hl 0 rfl) ?_
            refine lv_iconst (v := 0) hx hb dX8_isCommand_201 (by decide) ?_
            refine lv_iconst (v := 1) hx hb dX8_isCommand_202 (by decide) ?_
            obtain ⟨r_203, t_at_203, t_told_203, hq_203, hF⟩ := bn3_i hF
            refine cm_Vi (As := [.int (0 : Int32), .int (1 : Int32)]) (rest := []) (wr := []) ⟨hx, hb, hml, hown, hts⟩ (c_X8_number l D y fl H.size a_t a_t_now a_t_tried a_t_kept a_t_saved a_t_line a_t_text a_t_told a_t_way t_undos t_isSaved t_lined t_length (t_at + (1 : Int32)) (t_text t_at.toNatClampNeg) t_fault t_reason t_detail t_index t_answer t_thrown t_went t_fell t_text (upd t_told (2 : Int32).toNatClampNeg (-1 : Int32)) (0 : Int32) (1 : Int32) r_203 t_at_203 t_told_203 hq_203) (cwV 2 hts gX8_isCommand_X8_number rfl rfl rfl (by decide +kernel) ⟨Nat.le_of_ble_eq_true rfl, Nat.le_of_ble_eq_true rfl⟩) hK hP hD hS hA [0, 1, 2] [] rfl rfl rfl rfl (by decide) rfl rfl rfl hl.1 rfl (Nat.le_of_ble_eq_true rfl) dX8_isCommand_203 ⟨Nat.le_of_ble_eq_true rfl, Nat.le_of_ble_eq_true rfl⟩ (fun H locs hP hD hS => ?_)
            have hP : va_P D vwCl [(a_t, .inr (12, [.ref a_t_now, .ref a_t_tried, .ref a_t_kept, .int t_undos, .ref a_t_saved, .int t_isSaved, .ref a_t_line, .int t_lined, .ref a_t_text, .int t_length, .int t_at_203, .int (t_text t_at.toNatClampNeg), .ref a_t_told, .int t_fault, .int t_reason, .int t_detail, .int t_index, .int t_answer, .int t_thrown, .ref a_t_way, .int t_went, .int t_fell])), (a_t_text, .inl (y 1, 60, .inl t_text)), (a_t_told, .inl (y 0, 3, .inl t_told_203))] H := hP
            have hD : va_D A [(a_t, .inr (12, [.ref a_t_now, .ref a_t_tried, .ref a_t_kept, .int t_undos, .ref a_t_saved, .int t_isSaved, .ref a_t_line, .int t_lined, .ref a_t_text, .int t_length, .int t_at_203, .int (t_text t_at.toNatClampNeg), .ref a_t_told, .int t_fault, .int t_reason, .int t_detail, .int t_index, .int t_answer, .int t_thrown, .ref a_t_way, .int t_went, .int t_fell])), (a_t_text, .inl (y 1, 60, .inl t_text)), (a_t_told, .inl (y 0, 3, .inl t_told_203))] := hD
            obtain ⟨g_206, hF⟩ := gd_i hF
            obtain ⟨e0_206, e1_206, e2_206, e3_206⟩ := inj4 hF
            rw [← e0_206, ← e1_206, ← e2_206, ← e3_206] at hQ0
            rw [hQ0]
            exact ret_z hx hb hr (okB_n g_206).1 hlocks hAe hK hP hD hS [0, 1, 2] rfl rfl dX8_isCommand_206
          · have hF := iff_ hF c102_37
            by_cases c114_37 : (t_text t_at.toNatClampNeg) = (114 : Int32)
            · have hF := ift hF c114_37
              refine lv_lookup (tgt := 190) hx hb dX8_isCommand_37 (by decide) (by first | (rw [c114_37]; done) | (rw [c114_37]; decide +kernel)) (by decide) ?_
              refine lv_aload_n hx hb dX8_isCommand_190 rfl (lv_at hl 0 rfl) ?_
              refine lv_dup hx hb dX8_isCommand_191 rfl ?_
              refine va_get (D := D) (ci := 12) (v := .int t_at) (C := RX8) (T := TX8) (N := 22) hx hb hts iX8_isCommand_X8 hown hK hP 0 rfl rfl 10 (by decide) (hts (.fieldLink RX8 170 "SkipArchiveModel" "at" "I") (List.mem_of_getElem? (i := 1) rfl)) (fun _ h9 => h9) rfl dX8_isCommand_192 ?_
              refine lv_iconst (v := 1) hx hb dX8_isCommand_195 (by decide) ?_
              refine lv_iadd hx hb dX8_isCommand_196 ?_
              refine va_put (D := D) (ci := 12) (v := .int (t_at + (1 : Int32))) (ty := .int) (C := RX8) (T := TX8) (N := 22) hx hb hts iX8_isCommand_X8 tyX8 tyX8_ok nmX8 hown hK hP hD hS 0 rfl rfl 10 (by decide) (hts (.fieldLink RX8 170 "SkipArchiveModel" "at" "I") (List.mem_of_getElem? (i := 1) rfl)) (fun _ h9 => h9) rfl (by decide +kernel) rfl rfl (Nat.le_of_ble_eq_true rfl) dX8_isCommand_197 (fun H locs hP hD hS => ?_)
              have hP : va_P D vwCl [(a_t, .inr (12, [.ref a_t_now, .ref a_t_tried, .ref a_t_kept, .int t_undos, .ref a_t_saved, .int t_isSaved, .ref a_t_line, .int t_lined, .ref a_t_text, .int t_length, .int (t_at + (1 : Int32)), .int (t_text t_at.toNatClampNeg), .ref a_t_told, .int t_fault, .int t_reason, .int t_detail, .int t_index, .int t_answer, .int t_thrown, .ref a_t_way, .int t_went, .int t_fell])), (a_t_text, .inl (y 1, 60, .inl t_text)), (a_t_told, .inl (y 0, 3, .inl (upd t_told (2 : Int32).toNatClampNeg (-1 : Int32))))] H := hP
              have hD : va_D A [(a_t, .inr (12, [.ref a_t_now, .ref a_t_tried, .ref a_t_kept, .int t_undos, .ref a_t_saved, .int t_isSaved, .ref a_t_line, .int t_lined, .ref a_t_text, .int t_length, .int (t_at + (1 : Int32)), .int (t_text t_at.toNatClampNeg), .ref a_t_told, .int t_fault, .int t_reason, .int t_detail, .int t_index, .int t_answer, .int t_thrown, .ref a_t_way, .int t_went, .int t_fell])), (a_t_text, .inl (y 1, 60, .inl t_text)), (a_t_told, .inl (y 0, 3, .inl (upd t_told (2 : Int32).toNatClampNeg (-1 : Int32))))] := hD
              refine lv_aload_n hx hb dX8_isCommand_200 rfl (lv_at hl 0 rfl) ?_
              refine lv_iconst (v := 0) hx hb dX8_isCommand_201 (by decide) ?_
              refine lv_iconst (v := 1) hx hb dX8_isCommand_202 (by decide) ?_
              obtain ⟨r_203b, t_at_203b, t_told_203b, hq_203b, hF⟩ := bn3_i hF
              refine cm_Vi (As := [.int (0 : Int32), .int (1 : Int32)]) (rest := []) (wr := []) ⟨hx, hb, hml, hown, hts⟩ (c_X8_number l D y fl H.size a_t a_t_now a_t_tried a_t_kept a_t_saved a_t_line a_t_text a_t_told a_t_way t_undos t_isSaved t_lined t_length (t_at + (1 : Int32)) (t_text t_at.toNatClampNeg) t_fault t_reason t_detail t_index t_answer t_thrown t_went t_fell t_text (upd t_told (2 : Int32).toNatClampNeg (-1 : Int32)) (0 : Int32) (1 : Int32) r_203b t_at_203b t_told_203b hq_203b) (cwV 2 hts gX8_isCommand_X8_number rfl rfl rfl (by decide +kernel) ⟨Nat.le_of_ble_eq_true rfl, Nat.le_of_ble_eq_true rfl⟩) hK hP hD hS hA [0, 1, 2] [] rfl rfl rfl rfl (by decide) rfl rfl rfl hl.1 rfl (Nat.le_of_ble_eq_true rfl) dX8_isCommand_203 ⟨Nat.le_of_ble_eq_true rfl, Nat.le_of_ble_eq_true rfl⟩ (fun H locs hP hD hS => ?_)
              have hP : va_P D vwCl [(a_t, .inr (12, [.ref a_t_now, .ref a_t_tried, .ref a_t_kept, .int t_undos, .ref a_t_saved, .int t_isSaved, .ref a_t_line, .int t_lined, .ref a_t_text, .int t_length, .int t_at_203b, .int (t_text t_at.toNatClampNeg), .ref a_t_told, .int t_fault, .int t_reason, .int t_detail, .int t_index, .int t_answer, .int t_thrown, .ref a_t_way, .int t_went, .int t_fell])), (a_t_text, .inl (y 1, 60, .inl t_text)), (a_t_told, .inl (y 0, 3, .inl t_told_203b))] H := hP
              have hD : va_D A [(a_t, .inr (12, [.ref a_t_now, .ref a_t_tried, .ref a_t_kept, .int t_undos, .ref a_t_saved, .int t_isSaved, .ref a_t_line, .int t_lined, .ref a_t_text, .int t_length, .int t_at_203b, .int (t_text t_at.toNatClampNeg), .ref a_t_told, .int t_fault, .int t_reason, .int t_detail, .int t_index, .int t_answer, .int t_thrown, .ref a_t_way, .int t_went, .int t_fell])), (a_t_text, .inl (y 1, 60, .inl t_text)), (a_t_told, .inl (y 0, 3, .inl t_told_203b))] := hD
              obtain ⟨g_206b, hF⟩ := gd_i hF
              obtain ⟨e0_206, e1_206, e2_206, e3_206⟩ := inj4 hF
              rw [← e0_206, ← e1_206, ← e2_206, ← e3_206] at hQ0
              rw [hQ0]
              exact ret_z hx hb hr (okB_n g_206b).1 hlocks hAe hK hP hD hS [0, 1, 2] rfl rfl dX8_isCommand_206
            · have hF := iff_ hF c114_37
              by_cases c116_37 : (t_text t_at.toNatClampNeg) = (116 : Int32)
              · have hF := ift hF c116_37
                refine lv_lookup (tgt := 250) hx hb dX8_isCommand_37 (by decide) (by first | (rw [c116_37]; done) | (rw [c116_37]; decide +kernel)) (by decide) ?_
                refine lv_aload_n hx hb dX8_isCommand_250 rfl (lv_at hl 0 rfl) ?_
                refine lv_dup hx hb dX8_isCommand_251 rfl ?_
                refine va_get (D := D) (ci := 12) (v := .int t_at) (C := RX8) (T := TX8) (N := 22) hx hb hts iX8_isCommand_X8 hown hK hP 0 rfl rfl 10 (by decide) (hts (.fieldLink RX8 170 "SkipArchiveModel" "at" "I") (List.mem_of_getElem? (i := 1) rfl)) (fun _ h9 => h9) rfl dX8_isCommand_252 ?_
                refine lv_iconst (v := 1) hx hb dX8_isCommand_255 (by decide) ?_
                refine lv_iadd hx hb dX8_isCommand_256 ?_
                refine va_put (D := D) (ci := 12) (v := .int (t_at + (1 : Int32))) (ty := .int) (C := RX8) (T := TX8) (N := 22) hx hb hts iX8_isCommand_X8 tyX8 tyX8_ok nmX8 hown hK hP hD hS 0 rfl rfl 10 (by decide) (hts (.fieldLink RX8 170 "SkipArchiveModel" "at" "I") (List.mem_of_getElem? (i := 1) rfl)) (fun _ h9 => h9) rfl (by decide +kernel) rfl rfl (Nat.le_of_ble_eq_true rfl) dX8_isCommand_257 (fun H locs hP hD hS => ?_)
                have hP : va_P D vwCl [(a_t, .inr (12, [.ref a_t_now, .ref a_t_tried, .ref a_t_kept, .int t_undos, .ref a_t_saved, .int t_isSaved, .ref a_t_line, .int t_lined, .ref a_t_text, .int t_length, .int (t_at + (1 : Int32)), .int (t_text t_at.toNatClampNeg), .ref a_t_told, .int t_fault, .int t_reason, .int t_detail, .int t_index, .int t_answer, .int t_thrown, .ref a_t_way, .int t_went, .int t_fell])), (a_t_text, .inl (y 1, 60, .inl t_text)), (a_t_told, .inl (y 0, 3, .inl (upd t_told (2 : Int32).toNatClampNeg (-1 : Int32))))] H := hP
                have hD : va_D A [(a_t, .inr (12, [.ref a_t_now, .ref a_t_tried, .ref a_t_kept, .int t_undos, .ref a_t_saved, .int t_isSaved, .ref a_t_line, .int t_lined, .ref a_t_text, .int t_length, .int (t_at + (1 : Int32)), .int (t_text t_at.toNatClampNeg), .ref a_t_told, .int t_fault, .int t_reason, .int t_detail, .int t_index, .int t_answer, .int t_thrown, .ref a_t_way, .int t_went, .int t_fell])), (a_t_text, .inl (y 1, 60, .inl t_text)), (a_t_told, .inl (y 0, 3, .inl (upd t_told (2 : Int32).toNatClampNeg (-1 : Int32))))] := hD
                refine lv_iconst (v := 1) hx hb dX8_isCommand_260 (by decide) ?_
                obtain ⟨e0_261, e1_261, e2_261, e3_261⟩ := inj4 hF
                rw [← e0_261, ← e1_261, ← e2_261, ← e3_261] at hQ0
                rw [hQ0]
                exact ret_z hx hb hr (by decide +kernel) hlocks hAe hK hP hD hS [0, 1, 2] rfl rfl dX8_isCommand_261
              · have hF := iff_ hF c116_37
                by_cases c117_37 : (t_text t_at.toNatClampNeg) = (117 : Int32)
                · have hF := ift hF c117_37
                  refine lv_lookup (tgt := 173) hx hb dX8_isCommand_37 (by decide) (by first | (rw [c117_37]; done) | (rw [c117_37]; decide +kernel)) (by decide) ?_
                  refine lv_aload_n hx hb dX8_isCommand_173 rfl (lv_at hl 0 rfl) ?_
                  refine lv_dup hx hb dX8_isCommand_174 rfl ?_
                  refine va_get (D := D) (ci := 12) (v := .int t_at) (C := RX8) (T := TX8) (N := 22) hx hb hts iX8_isCommand_X8 hown hK hP 0 rfl rfl 10 (by decide) (hts (.fieldLink RX8 170 "SkipArchiveModel" "at" "I") (List.mem_of_getElem? (i := 1) rfl)) (fun _ h9 => h9) rfl dX8_isCommand_175 ?_
                  refine lv_iconst (v := 1) hx hb dX8_isCommand_178 (by decide) ?_
                  refine lv_iadd hx hb dX8_isCommand_179 ?_
                  refine va_put (D := D) (ci := 12) (v := .int (t_at + (1 : Int32))) (ty := .int) (C := RX8) (T := TX8) (N := 22) hx hb hts iX8_isCommand_X8 tyX8 tyX8_ok nmX8 hown hK hP hD hS 0 rfl rfl 10 (by decide) (hts (.fieldLink RX8 170 "SkipArchiveModel" "at" "I") (List.mem_of_getElem? (i := 1) rfl)) (fun _ h9 => h9) rfl (by decide +kernel) rfl rfl (Nat.le_of_ble_eq_true rfl) dX8_isCommand_180 (fun H locs hP hD hS => ?_)
                  have hP : va_P D vwCl [(a_t, .inr (12, [.ref a_t_now, .ref a_t_tried, .ref a_t_kept, .int t_undos, .ref a_t_saved, .int t_isSaved, .ref a_t_line, .int t_lined, .ref a_t_text, .int t_length, .int (t_at + (1 : Int32)), .int (t_text t_at.toNatClampNeg), .ref a_t_told, .int t_fault, .int t_reason, .int t_detail, .int t_index, .int t_answer, .int t_thrown, .ref a_t_way, .int t_went, .int t_fell])), (a_t_text, .inl (y 1, 60, .inl t_text)), (a_t_told, .inl (y 0, 3, .inl (upd t_told (2 : Int32).toNatClampNeg (-1 : Int32))))] H := hP
                  have hD : va_D A [(a_t, .inr (12, [.ref a_t_now, .ref a_t_tried, .ref a_t_kept, .int t_undos, .ref a_t_saved, .int t_isSaved, .ref a_t_line, .int t_lined, .ref a_t_text, .int t_length, .int (t_at + (1 : Int32)), .int (t_text t_at.toNatClampNeg), .ref a_t_told, .int t_fault, .int t_reason, .int t_detail, .int t_index, .int t_answer, .int t_thrown, .ref a_t_way, .int t_went, .int t_fell])), (a_t_text, .inl (y 1, 60, .inl t_text)), (a_t_told, .inl (y 0, 3, .inl (upd t_told (2 : Int32).toNatClampNeg (-1 : Int32))))] := hD
                  refine lv_aload_n hx hb dX8_isCommand_183 rfl (lv_at hl 0 rfl) ?_
                  refine lv_iconst (v := 0) hx hb dX8_isCommand_184 (by decide) ?_
                  refine lv_iconst (v := 3) hx hb dX8_isCommand_185 (by decide) ?_
                  obtain ⟨r_186bb, t_at_186bb, t_told_186bb, hq_186bb, hF⟩ := bn3_i hF
                  refine cm_Vi (As := [.int (0 : Int32), .int (3 : Int32)]) (rest := []) (wr := []) ⟨hx, hb, hml, hown, hts⟩ (c_X8_number l D y fl H.size a_t a_t_now a_t_tried a_t_kept a_t_saved a_t_line a_t_text a_t_told a_t_way t_undos t_isSaved t_lined t_length (t_at + (1 : Int32)) (t_text t_at.toNatClampNeg) t_fault t_reason t_detail t_index t_answer t_thrown t_went t_fell t_text (upd t_told (2 : Int32).toNatClampNeg (-1 : Int32)) (0 : Int32) (3 : Int32) r_186bb t_at_186bb t_told_186bb hq_186bb) (cwV 2 hts gX8_isCommand_X8_number rfl rfl rfl (by decide +kernel) ⟨Nat.le_of_ble_eq_true rfl, Nat.le_of_ble_eq_true rfl⟩) hK hP hD hS hA [0, 1, 2] [] rfl rfl rfl rfl (by decide) rfl rfl rfl hl.1 rfl (Nat.le_of_ble_eq_true rfl) dX8_isCommand_186 ⟨Nat.le_of_ble_eq_true rfl, Nat.le_of_ble_eq_true rfl⟩ (fun H locs hP hD hS => ?_)
                  have hP : va_P D vwCl [(a_t, .inr (12, [.ref a_t_now, .ref a_t_tried, .ref a_t_kept, .int t_undos, .ref a_t_saved, .int t_isSaved, .ref a_t_line, .int t_lined, .ref a_t_text, .int t_length, .int t_at_186bb, .int (t_text t_at.toNatClampNeg), .ref a_t_told, .int t_fault, .int t_reason, .int t_detail, .int t_index, .int t_answer, .int t_thrown, .ref a_t_way, .int t_went, .int t_fell])), (a_t_text, .inl (y 1, 60, .inl t_text)), (a_t_told, .inl (y 0, 3, .inl t_told_186bb))] H := hP
                  have hD : va_D A [(a_t, .inr (12, [.ref a_t_now, .ref a_t_tried, .ref a_t_kept, .int t_undos, .ref a_t_saved, .int t_isSaved, .ref a_t_line, .int t_lined, .ref a_t_text, .int t_length, .int t_at_186bb, .int (t_text t_at.toNatClampNeg), .ref a_t_told, .int t_fault, .int t_reason, .int t_detail, .int t_index, .int t_answer, .int t_thrown, .ref a_t_way, .int t_went, .int t_fell])), (a_t_text, .inl (y 1, 60, .inl t_text)), (a_t_told, .inl (y 0, 3, .inl t_told_186bb))] := hD
                  obtain ⟨g_189bb, hF⟩ := gd_i hF
                  obtain ⟨e0_189, e1_189, e2_189, e3_189⟩ := inj4 hF
                  rw [← e0_189, ← e1_189, ← e2_189, ← e3_189] at hQ0
                  rw [hQ0]
                  exact ret_z hx hb hr (okB_n g_189bb).1 hlocks hAe hK hP hD hS [0, 1, 2] rfl rfl dX8_isCommand_189
                · have hF := iff_ hF c117_37
                  by_cases c119_37 : (t_text t_at.toNatClampNeg) = (119 : Int32)
                  · have hF := ift hF c119_37
                    refine lv_lookup (tgt := 207) hx hb dX8_isCommand_37 (by decide) (by first | (rw [c119_37]; done) | (rw [c119_37]; decide +kernel)) (by decide) ?_
                    refine lv_aload_n hx hb dX8_isCommand_207 rfl (lv_at hl 0 rfl) ?_
                    refine lv_dup hx hb dX8_isCommand_208 rfl ?_
                    refine va_get (D := D) (ci := 12) (v := .int t_at) (C := RX8) (T := TX8) (N := 22) hx hb hts iX8_isCommand_X8 hown hK hP 0 rfl rfl 10 (by decide) (hts (.fieldLink RX8 170 "SkipArchiveModel" "at" "I") (List.mem_of_getElem? (i := 1) rfl)) (fun _ h9 => h9) rfl dX8_isCommand_209 ?_
                    refine lv_iconst (v := 1) hx hb dX8_isCommand_212 (by decide) ?_
                    refine lv_iadd hx hb dX8_isCommand_213 ?_
                    refine va_put (D := D) (ci := 12) (v := .int (t_at + (1 : Int32))) (ty := .int) (C := RX8) (T := TX8) (N := 22) hx hb hts iX8_isCommand_X8 tyX8 tyX8_ok nmX8 hown hK hP hD hS 0 rfl rfl 10 (by decide) (hts (.fieldLink RX8 170 "SkipArchiveModel" "at" "I") (List.mem_of_getElem? (i := 1) rfl)) (fun _ h9 => h9) rfl (by decide +kernel) rfl rfl (Nat.le_of_ble_eq_true rfl) dX8_isCommand_214 (fun H locs hP hD hS => ?_)
                    have hP : va_P D vwCl [(a_t, .inr (12, [.ref a_t_now, .ref a_t_tried, .ref a_t_kept, .int t_undos, .ref a_t_saved, .int t_isSaved, .ref a_t_line, .int t_lined, .ref a_t_text, .int t_length, .int (t_at + (1 : Int32)), .int (t_text t_at.toNatClampNeg), .ref a_t_told, .int t_fault, .int t_reason, .int t_detail, .int t_index, .int t_answer, .int t_thrown, .ref a_t_way, .int t_went, .int t_fell])), (a_t_text, .inl (y 1, 60, .inl t_text)), (a_t_told, .inl (y 0, 3, .inl (upd t_told (2 : Int32).toNatClampNeg (-1 : Int32))))] H := hP
                    have hD : va_D A [(a_t, .inr (12, [.ref a_t_now, .ref a_t_tried, .ref a_t_kept, .int t_undos, .ref a_t_saved, .int t_isSaved, .ref a_t_line, .int t_lined, .ref a_t_text, .int t_length, .int (t_at + (1 : Int32)), .int (t_text t_at.toNatClampNeg), .ref a_t_told, .int t_fault, .int t_reason, .int t_detail, .int t_index, .int t_answer, .int t_thrown, .ref a_t_way, .int t_went, .int t_fell])), (a_t_text, .inl (y 1, 60, .inl t_text)), (a_t_told, .inl (y 0, 3, .inl (upd t_told (2 : Int32).toNatClampNeg (-1 : Int32))))] := hD
                    refine lv_aload_n hx hb dX8_isCommand_217 rfl (lv_at hl 0 rfl) ?_
                    refine lv_iconst (v := 0) hx hb dX8_isCommand_218 (by decide) ?_
                    refine lv_iconst (v := 3) hx hb dX8_isCommand_219 (by decide) ?_
                    obtain ⟨r_220, t_at_220, t_told_220, hq_220, hF⟩ := bn3_i hF
                    refine cm_Vi (As := [.int (0 : Int32), .int (3 : Int32)]) (rest := []) (wr := []) ⟨hx, hb, hml, hown, hts⟩ (c_X8_number l D y fl H.size a_t a_t_now a_t_tried a_t_kept a_t_saved a_t_line a_t_text a_t_told a_t_way t_undos t_isSaved t_lined t_length (t_at + (1 : Int32)) (t_text t_at.toNatClampNeg) t_fault t_reason t_detail t_index t_answer t_thrown t_went t_fell t_text (upd t_told (2 : Int32).toNatClampNeg (-1 : Int32)) (0 : Int32) (3 : Int32) r_220 t_at_220 t_told_220 hq_220) (cwV 2 hts gX8_isCommand_X8_number rfl rfl rfl (by decide +kernel) ⟨Nat.le_of_ble_eq_true rfl, Nat.le_of_ble_eq_true rfl⟩) hK hP hD hS hA [0, 1, 2] [] rfl rfl rfl rfl (by decide) rfl rfl rfl hl.1 rfl (Nat.le_of_ble_eq_true rfl) dX8_isCommand_220 ⟨Nat.le_of_ble_eq_true rfl, Nat.le_of_ble_eq_true rfl⟩ (fun H locs hP hD hS => ?_)
                    have hP : va_P D vwCl [(a_t, .inr (12, [.ref a_t_now, .ref a_t_tried, .ref a_t_kept, .int t_undos, .ref a_t_saved, .int t_isSaved, .ref a_t_line, .int t_lined, .ref a_t_text, .int t_length, .int t_at_220, .int (t_text t_at.toNatClampNeg), .ref a_t_told, .int t_fault, .int t_reason, .int t_detail, .int t_index, .int t_answer, .int t_thrown, .ref a_t_way, .int t_went, .int t_fell])), (a_t_text, .inl (y 1, 60, .inl t_text)), (a_t_told, .inl (y 0, 3, .inl t_told_220))] H := hP
                    have hD : va_D A [(a_t, .inr (12, [.ref a_t_now, .ref a_t_tried, .ref a_t_kept, .int t_undos, .ref a_t_saved, .int t_isSaved, .ref a_t_line, .int t_lined, .ref a_t_text, .int t_length, .int t_at_220, .int (t_text t_at.toNatClampNeg), .ref a_t_told, .int t_fault, .int t_reason, .int t_detail, .int t_index, .int t_answer, .int t_thrown, .ref a_t_way, .int t_went, .int t_fell])), (a_t_text, .inl (y 1, 60, .inl t_text)), (a_t_told, .inl (y 0, 3, .inl t_told_220))] := hD
                    refine lv_if_eq (tgt := 248) hx hb dX8_isCommand_223 (by decide) (fun c_223 => ?_) (fun c_223 => ?_)
                    · have hF := ift hF c_223
                      refine lv_iconst (v := 0) hx hb dX8_isCommand_248 (by decide) ?_
                      obtain ⟨e0_249, e1_249, e2_249, e3_249⟩ := inj4 hF
                      rw [← e0_249, ← e1_249, ← e2_249, ← e3_249] at hQ0
                      rw [hQ0]
                      exact ret_z hx hb hr (by decide +kernel) hlocks hAe hK hP hD hS [0, 1, 2] rfl rfl dX8_isCommand_249
                    · have hF := iff_ hF c_223
                      refine lv_aload_n hx hb dX8_isCommand_226 rfl (lv_at hl 0 rfl) ?_
                      refine lv_bipush (v := 61) hx hb dX8_isCommand_227 (by decide) ?_
                      obtain ⟨r_229, t_at_229, hq_229, hF⟩ := bn2_i hF
                      refine cm_Vi (As := [.int (61 : Int32)]) (rest := []) (wr := [(a_t_told, .inl (y 0, 3, .inl t_told_220))]) ⟨hx, hb, hml, hown, hts⟩ (c_X8_sign l D y fl H.size a_t a_t_now a_t_tried a_t_kept a_t_saved a_t_line a_t_text a_t_told a_t_way t_undos t_isSaved t_lined t_length t_at_220 (t_text t_at.toNatClampNeg) t_fault t_reason t_detail t_index t_answer t_thrown t_went t_fell t_text (61 : Int32) r_229 t_at_229 hq_229) (cwV 1 hts gX8_isCommand_X8_sign rfl rfl rfl (by decide +kernel) ⟨Nat.le_of_ble_eq_true rfl, Nat.le_of_ble_eq_true rfl⟩) hK hP hD hS hA [0, 1] [2] rfl rfl rfl rfl (by decide) rfl rfl rfl hl.1 rfl (Nat.le_of_ble_eq_true rfl) dX8_isCommand_229 ⟨Nat.le_of_ble_eq_true rfl, Nat.le_of_ble_eq_true rfl⟩ (fun H locs hP hD hS => ?_)
                      have hP : va_P D vwCl [(a_t_told, .inl (y 0, 3, .inl t_told_220)), (a_t, .inr (12, [.ref a_t_now, .ref a_t_tried, .ref a_t_kept, .int t_undos, .ref a_t_saved, .int t_isSaved, .ref a_t_line, .int t_lined, .ref a_t_text, .int t_length, .int t_at_229, .int (t_text t_at.toNatClampNeg), .ref a_t_told, .int t_fault, .int t_reason, .int t_detail, .int t_index, .int t_answer, .int t_thrown, .ref a_t_way, .int t_went, .int t_fell])), (a_t_text, .inl (y 1, 60, .inl t_text))] H := hP
                      have hD : va_D A [(a_t_told, .inl (y 0, 3, .inl t_told_220)), (a_t, .inr (12, [.ref a_t_now, .ref a_t_tried, .ref a_t_kept, .int t_undos, .ref a_t_saved, .int t_isSaved, .ref a_t_line, .int t_lined, .ref a_t_text, .int t_length, .int t_at_229, .int (t_text t_at.toNatClampNeg), .ref a_t_told, .int t_fault, .int t_reason, .int t_detail, .int t_index, .int t_answer, .int t_thrown, .ref a_t_way, .int t_went, .int t_fell])), (a_t_text, .inl (y 1, 60, .inl t_text))] := hD
                      refine lv_if_eq (tgt := 248) hx hb dX8_isCommand_232 (by decide) (fun c_232 => ?_) (fun c_232 => ?_)
                      · have hF := ift hF c_232
                        refine lv_iconst (v := 0) hx hb dX8_isCommand_248 (by decide) ?_
                        obtain ⟨e0_249, e1_249, e2_249, e3_249⟩ := inj4 hF
                        rw [← e0_249, ← e1_249, ← e2_249, ← e3_249] at hQ0
                        rw [hQ0]
                        exact ret_z hx hb hr (by decide +kernel) hlocks hAe hK hP hD hS [1, 2, 0] rfl rfl dX8_isCommand_249
                      · have hF := iff_ hF c_232
                        refine lv_aload_n hx hb dX8_isCommand_235 rfl (lv_at hl 0 rfl) ?_
                        refine lv_iconst (v := 1) hx hb dX8_isCommand_236 (by decide) ?_
                        refine lv_iconst (v := 2) hx hb dX8_isCommand_237 (by decide) ?_
                        obtain ⟨r_238, t_at_238, t_told_238, hq_238, hF⟩ := bn3_i hF
                        refine cm_Vi (As := [.int (1 : Int32), .int (2 : Int32)]) (rest := []) (wr := []) ⟨hx, hb, hml, hown, hts⟩ (c_X8_number l D y fl H.size a_t a_t_now a_t_tried a_t_kept a_t_saved a_t_line a_t_text a_t_told a_t_way t_undos t_isSaved t_lined t_length t_at_229 (t_text t_at.toNatClampNeg) t_fault t_reason t_detail t_index t_answer t_thrown t_went t_fell t_text t_told_220 (1 : Int32) (2 : Int32) r_238 t_at_238 t_told_238 hq_238) (cwV 2 hts gX8_isCommand_X8_number rfl rfl rfl (by decide +kernel) ⟨Nat.le_of_ble_eq_true rfl, Nat.le_of_ble_eq_true rfl⟩) hK hP hD hS hA [1, 2, 0] [] rfl rfl rfl rfl (by decide) rfl rfl rfl hl.1 rfl (Nat.le_of_ble_eq_true rfl) dX8_isCommand_238 ⟨Nat.le_of_ble_eq_true rfl, Nat.le_of_ble_eq_true rfl⟩ (fun H locs hP hD hS => ?_)
                        have hP : va_P D vwCl [(a_t, .inr (12, [.ref a_t_now, .ref a_t_tried, .ref a_t_kept, .int t_undos, .ref a_t_saved, .int t_isSaved, .ref a_t_line, .int t_lined, .ref a_t_text, .int t_length, .int t_at_238, .int (t_text t_at.toNatClampNeg), .ref a_t_told, .int t_fault, .int t_reason, .int t_detail, .int t_index, .int t_answer, .int t_thrown, .ref a_t_way, .int t_went, .int t_fell])), (a_t_text, .inl (y 1, 60, .inl t_text)), (a_t_told, .inl (y 0, 3, .inl t_told_238))] H := hP
                        have hD : va_D A [(a_t, .inr (12, [.ref a_t_now, .ref a_t_tried, .ref a_t_kept, .int t_undos, .ref a_t_saved, .int t_isSaved, .ref a_t_line, .int t_lined, .ref a_t_text, .int t_length, .int t_at_238, .int (t_text t_at.toNatClampNeg), .ref a_t_told, .int t_fault, .int t_reason, .int t_detail, .int t_index, .int t_answer, .int t_thrown, .ref a_t_way, .int t_went, .int t_fell])), (a_t_text, .inl (y 1, 60, .inl t_text)), (a_t_told, .inl (y 0, 3, .inl t_told_238))] := hD
                        refine lv_if_eq (tgt := 248) hx hb dX8_isCommand_241 (by decide) (fun c_241 => ?_) (fun c_241 => ?_)
                        · have hF := ift hF c_241
                          refine lv_iconst (v := 0) hx hb dX8_isCommand_248 (by decide) ?_
                          obtain ⟨e0_249, e1_249, e2_249, e3_249⟩ := inj4 hF
                          rw [← e0_249, ← e1_249, ← e2_249, ← e3_249] at hQ0
                          rw [hQ0]
                          exact ret_z hx hb hr (by decide +kernel) hlocks hAe hK hP hD hS [0, 1, 2] rfl rfl dX8_isCommand_249
                        · have hF := iff_ hF c_241
                          refine lv_iconst (v := 1) hx hb dX8_isCommand_244 (by decide) ?_
                          refine lv_goto (tgt := 249) hx hb dX8_isCommand_245 (by decide) ?_
                          obtain ⟨e0_249, e1_249, e2_249, e3_249⟩ := inj4 hF
                          rw [← e0_249, ← e1_249, ← e2_249, ← e3_249] at hQ0
                          rw [hQ0]
                          exact ret_z hx hb hr (by decide +kernel) hlocks hAe hK hP hD hS [0, 1, 2] rfl rfl dX8_isCommand_249
                  · have hF := iff_ hF c119_37
                    refine lv_lookup (tgt := 262) (off := 225) hx hb dX8_isCommand_37 (by decide) (by refine (lv_osw c43_37 (by decide)).trans ?_; refine (lv_osw c45_37 (by decide)).trans ?_; refine (lv_osw c100_37 (by decide)).trans ?_; refine (lv_osw c102_37 (by decide)).trans ?_; refine (lv_osw c114_37 (by decide)).trans ?_; refine (lv_osw c116_37 (by decide)).trans ?_; refine (lv_osw c117_37 (by decide)).trans ?_; refine (lv_osw c119_37 (by decide)).trans ?_; rfl) (by decide) ?_
                    refine lv_iconst (v := 0) hx hb dX8_isCommand_262 (by decide) ?_
                    obtain ⟨e0_263, e1_263, e2_263, e3_263⟩ := inj4 hF
                    rw [← e0_263, ← e1_263, ← e2_263, ← e3_263] at hQ0
                    rw [hQ0]
                    exact ret_z hx hb hr (by decide +kernel) hlocks hAe hK hP hD hS [0, 1, 2] rfl rfl dX8_isCommand_263
  · have hF := ift hF c_8
    refine lv_iconst (v := 0) hx hb dX8_isCommand_11 (by decide) ?_
    obtain ⟨e0_12, e1_12, e2_12, e3_12⟩ := inj4 hF
    rw [← e0_12, ← e1_12, ← e2_12, ← e3_12] at hQ0
    rw [hQ0]
    exact ret_z hx hb hr (by decide +kernel) hlocks hAe hK hP hD hS [0, 1, 2] rfl rfl dX8_isCommand_12
def F_X8_carries (fl : Nat) (t_order : Int32) (t_reason : Int32) (t_detail : Int32) (t_index : Int32) (t_answer : Int32) (t_now : Nat → Int32) (t_told : Nat → Int32) : Option (Int32 × Int32 × Int32 × Int32 × Int32 × (Nat → Int32)) := if t_order = (43 : Int32) then (gi (0 : Int32) 3 (gi (1 : Int32) 3 (gi (2 : Int32) 3 (gi (2 : Int32) 3 (if (t_told (2 : Int32).toNatClampNeg) < 0 then (bn6 (F_X8_files fl t_reason t_detail t_index t_answer t_now (t_told (0 : Int32).toNatClampNeg) (t_told (1 : Int32).toNatClampNeg) (t_told (2 : Int32).toNatClampNeg) (0 : Int32)) fun r_105 t_reason_105 t_detail_105 t_index_105 t_answer_105 t_now_105 => gd (okB r_105 = true) (some (r_105, t_reason_105, t_detail_105, t_index_105, t_answer_105, t_now_105))) else (bn6 (F_X8_files fl t_reason t_detail t_index t_answer t_now (t_told (0 : Int32).toNatClampNeg) (t_told (1 : Int32).toNatClampNeg) (t_told (2 : Int32).toNatClampNeg) (1 : Int32)) fun r_105b t_reason_105b t_detail_105b t_index_105b t_answer_105b t_now_105b => gd (okB r_105b = true) (some (r_105b, t_reason_105b, t_detail_105b, t_index_105b, t_answer_105b, t_now_105b)))))))) else (if t_order = (45 : Int32) then (gi (0 : Int32) 3 (bn6 (F_X8_drops fl t_reason t_detail t_index t_answer t_now (t_told (0 : Int32).toNatClampNeg)) fun r_116 t_reason_116 t_detail_116 t_index_116 t_answer_116 t_now_116 => gd (okB r_116 = true) (some (r_116, t_reason_116, t_detail_116, t_index_116, t_answer_116, t_now_116)))) else (if t_order = (100 : Int32) then (gi (0 : Int32) 3 (bn6 (F_X8_turns fl t_reason t_detail t_index t_answer t_now (t_told (0 : Int32).toNatClampNeg) (-1 : Int32)) fun r_140 t_reason_140 t_detail_140 t_index_140 t_answer_140 t_now_140 => gd (okB r_140 = true) (some (r_140, t_reason_140, t_detail_140, t_index_140, t_answer_140, t_now_140)))) else (if t_order = (102 : Int32) then (gi (0 : Int32) 3 (bn6 (F_X8_puts fl t_reason t_detail t_index t_answer t_now (t_told (0 : Int32).toNatClampNeg) (1 : Int32)) fun r_152 t_reason_152 t_detail_152 t_index_152 t_answer_152 t_now_152 => gd (okB r_152 = true) (some (r_152, t_reason_152, t_detail_152, t_index_152, t_answer_152, t_now_152)))) else (if t_order = (114 : Int32) then (gi (0 : Int32) 3 (bn6 (F_X8_puts fl t_reason t_detail t_index t_answer t_now (t_told (0 : Int32).toNatClampNeg) (0 : Int32)) fun r_164 t_reason_164 t_detail_164 t_index_164 t_answer_164 t_now_164 => gd (okB r_164 = true) (some (r_164, t_reason_164, t_detail_164, t_index_164, t_answer_164, t_now_164)))) else (if t_order = (117 : Int32) then (gi (0 : Int32) 3 (bn6 (F_X8_turns fl t_reason t_detail t_index t_answer t_now (t_told (0 : Int32).toNatClampNeg) (1 : Int32)) fun r_128 t_reason_128 t_detail_128 t_index_128 t_answer_128 t_now_128 => gd (okB r_128 = true) (some (r_128, t_reason_128, t_detail_128, t_index_128, t_answer_128, t_now_128)))) else (if t_order = (119 : Int32) then (gi (0 : Int32) 3 (gi (1 : Int32) 3 (bn6 (F_X8_weighs fl t_reason t_detail t_index t_answer t_now (t_told (0 : Int32).toNatClampNeg) (t_told (1 : Int32).toNatClampNeg)) fun r_181 t_reason_181 t_detail_181 t_index_181 t_answer_181 t_now_181 => gd (okB r_181 = true) (some (r_181, t_reason_181, t_detail_181, t_index_181, t_answer_181, t_now_181))))) else (bn2 (F_X8_tosses fl t_now) fun r_187 t_now_187 => if r_187 = 0 then (bn2 (F_X8_does fl t_answer (0 : Int32)) fun r_198 t_answer_198 => gd (okB r_198 = true) (some (r_198, t_reason, t_detail, t_index, t_answer_198, t_now_187))) else (bn2 (F_X8_does fl t_answer (1 : Int32)) fun r_198b t_answer_198b => gd (okB r_198b = true) (some (r_198b, t_reason, t_detail, t_index, t_answer_198b, t_now_187))))))))))
theorem iX8_carries_X8 : ∀ w ∈ u_ws RX8 TX8 22, w ∈ wsX8_carries := fun w h => List.mem_cons_of_mem _ (List.mem_append_left _ (List.mem_append_right _ h))
set_option maxHeartbeats 4000000 in
set_option maxRecDepth 100000 in
theorem c_X8_carries (l : Launch) (D : va_G) (y : Nat → ClassId) (fl : Nat) (sz : Nat) (a_t : Nat) (a_t_now : Nat) (a_t_tried : Nat) (a_t_kept : Nat) (a_t_saved : Nat) (a_t_line : Nat) (a_t_text : Nat) (a_t_told : Nat) (a_t_way : Nat) (t_undos : Int32) (t_isSaved : Int32) (t_lined : Int32) (t_length : Int32) (t_at : Int32) (t_order : Int32) (t_fault : Int32) (t_reason : Int32) (t_detail : Int32) (t_index : Int32) (t_answer : Int32) (t_thrown : Int32) (t_went : Int32) (t_fell : Int32) (t_now : Nat → Int32) (t_told : Nat → Int32) (r : Int32) (t_reason' : Int32) (t_detail' : Int32) (t_index' : Int32) (t_answer' : Int32) (t_now' : Nat → Int32) (hF : F_X8_carries fl t_order t_reason t_detail t_index t_answer t_now t_told = some (r, t_reason', t_detail', t_index', t_answer', t_now')) : Met l yX8_carries wsX8_carries (rmq 5 111) (wrP D y [(a_t, .inr (12, [.ref a_t_now, .ref a_t_tried, .ref a_t_kept, .int t_undos, .ref a_t_saved, .int t_isSaved, .ref a_t_line, .int t_lined, .ref a_t_text, .int t_length, .int t_at, .int t_order, .ref a_t_told, .int t_fault, .int t_reason, .int t_detail, .int t_index, .int t_answer, .int t_thrown, .ref a_t_way, .int t_went, .int t_fell])), (a_t_now, .inl (y 0, 77, .inl t_now)), (a_t_told, .inl (y 0, 3, .inl t_told))] sz [.ref a_t]) (wQi D y r [(a_t, .inr (12, [.ref a_t_now, .ref a_t_tried, .ref a_t_kept, .int t_undos, .ref a_t_saved, .int t_isSaved, .ref a_t_line, .int t_lined, .ref a_t_text, .int t_length, .int t_at, .int t_order, .ref a_t_told, .int t_fault, .int t_reason', .int t_detail', .int t_index', .int t_answer', .int t_thrown, .ref a_t_way, .int t_went, .int t_fell])), (a_t_now, .inl (y 0, 77, .inl t_now')), (a_t_told, .inl (y 0, 3, .inl t_told))] [(a_t, .inr (12, [.ref a_t_now, .ref a_t_tried, .ref a_t_kept, .int t_undos, .ref a_t_saved, .int t_isSaved, .ref a_t_line, .int t_lined, .ref a_t_text, .int t_length, .int t_at, .int t_order, .ref a_t_told, .int t_fault, .int t_reason, .int t_detail, .int t_index, .int t_answer, .int t_thrown, .ref a_t_way, .int t_went, .int t_fell])), (a_t_now, .inl (y 0, 77, .inl t_now)), (a_t_told, .inl (y 0, 3, .inl t_told))] sz) 0 0 (va_A [(a_t, .inr (12, [.ref a_t_now, .ref a_t_tried, .ref a_t_kept, .int t_undos, .ref a_t_saved, .int t_isSaved, .ref a_t_line, .int t_lined, .ref a_t_text, .int t_length, .int t_at, .int t_order, .ref a_t_told, .int t_fault, .int t_reason, .int t_detail, .int t_index, .int t_answer, .int t_thrown, .ref a_t_way, .int t_went, .int t_fell])), (a_t_now, .inl (y 0, 77, .inl t_now)), (a_t_told, .inl (y 0, 3, .inl t_told))] sz) := by
  refine Met.ofW (cc := cX8_carries) (maxL := 1) (ret := (some .boolean)) (by decide) rfl ?_
  intro p e s m args below meth c s₁ B hml hv
  obtain ⟨hav, hsz, hP, hK, hD0⟩ := hv
  have hx := B.exec
  have hb := B.bytes
  have hr := B.returns
  have hts := atoms_spec (ws := wsX8_carries) B.pre
  have hown : s.vm.findClass RX8 = some m.cls := findClass_of_methodNamed B.named
  have hlocks := B.notSynchronized
  subst hsz
  have hD := hD0.self (sz := s.heap.size)
  obtain ⟨A, hAe⟩ : ∃ A : Nat → Prop, va_A [(a_t, .inr (12, [.ref a_t_now, .ref a_t_tried, .ref a_t_kept, .int t_undos, .ref a_t_saved, .int t_isSaved, .ref a_t_line, .int t_lined, .ref a_t_text, .int t_length, .int t_at, .int t_order, .ref a_t_told, .int t_fault, .int t_reason, .int t_detail, .int t_index, .int t_answer, .int t_thrown, .ref a_t_way, .int t_went, .int t_fell])), (a_t_now, .inl (y 0, 77, .inl t_now)), (a_t_told, .inl (y 0, 3, .inl t_told))] s.heap.size = A := ⟨_, rfl⟩
  rw [hAe] at hD
  have hA : ∀ q, s.heap.size ≤ q → A q := fun q h => by rw [← hAe]; exact Or.inr h
  have hS : va_S A s.heap s.heap [] := va_S.rf
  refine W_q (R1 := (rmq 5 111)) rfl (fun Q0 hQ0 => ?_)
  unfold F_X8_carries at hF
  refine W_entry hav (Nat.le_of_ble_eq_true rfl) (fun ls hl => ?_)
  have hl : lv_has ls 1 [(0, .ref a_t)] := hl
  refine lv_aload_n hx hb dX8_carries_0 rfl (lv_at hl 0 rfl) ?_
  refine va_get (D := D) (ci := 12) (v := .int t_order) (C := RX8) (T := TX8) (N := 22) hx hb hts iX8_carries_X8 hown hK hP 0 rfl rfl 11 (by decide) (hts (.fieldLink RX8 173 "SkipArchiveModel" "order" "C") (List.mem_of_getElem? (i := 1) rfl)) (fun _ h9 => h9) rfl dX8_carries_1 ?_
  by_cases c43_4 : t_order = (43 : Int32)
  · have hF := ift hF c43_4
    refine lv_lookup (tgt := 72) hx hb dX8_carries_4 (by decide) (by first | (rw [c43_4]; done) | (rw [c43_4]; decide +kernel)) (by decide) ?_
    refine lv_aload_n hx hb dX8_carries_72 rfl (lv_at hl 0 rfl) ?_
    refine lv_aload_n hx hb dX8_carries_73 rfl (lv_at hl 0 rfl) ?_
    refine va_get (D := D) (ci := 12) (v := .ref a_t_told) (C := RX8) (T := TX8) (N := 22) hx hb hts iX8_carries_X8 hown hK hP 0 rfl rfl 12 (by decide) (hts (.fieldLink RX8 29 "SkipArchiveModel" "told" "[I") (List.mem_of_getElem? (i := 2) rfl)) (fun _ h9 => h9) rfl dX8_carries_74 ?_
    refine lv_iconst (v := 0) hx hb dX8_carries_77 (by decide) ?_
    obtain ⟨g_78, hF⟩ := gi_i hF
    refine va_iald hx hb hK hP 2 0 rfl rfl g_78 dX8_carries_78 ?_
    refine lv_aload_n hx hb dX8_carries_79 rfl (lv_at hl 0 rfl) ?_
    refine va_get (D := D) (ci := 12) (v := .ref a_t_told) (C := RX8) (T := TX8) (N := 22) hx hb hts iX8_carries_X8 hown hK hP 0 rfl rfl 12 (by decide) (hts (.fieldLink RX8 29 "SkipArchiveModel" "told" "[I") (List.mem_of_getElem? (i := 2) rfl)) (fun _ h9 => h9) rfl dX8_carries_80 ?_
    refine lv_iconst (v := 1) hx hb dX8_carries_83 (by decide) ?_
    obtain ⟨g_84, hF⟩ := gi_i hF
    refine va_iald hx hb hK hP 2 0 rfl rfl g_84 dX8_carries_84 ?_
    refine lv_aload_n hx hb dX8_carries_85 rfl (lv_at hl 0 rfl) ?_
    refine va_get (D := D) (ci := 12) (v := .ref a_t_told) (C := RX8) (T := TX8) (N := 22) hx hb hts iX8_carries_X8 hown hK hP 0 rfl rfl 12 (by decide) (hts (.fieldLink RX8 29 "SkipArchiveModel" "told" "[I") (List.mem_of_getElem? (i := 2) rfl)) (fun _ h9 => h9) rfl dX8_carries_86 ?_
    refine lv_iconst (v := 2) hx hb dX8_carries_89 (by decide) ?_
    obtain ⟨g_90, hF⟩ := gi_i hF
    refine va_iald hx hb hK hP 2 0 rfl rfl g_90 dX8_carries_90 ?_
    refine lv_aload_n hx hb dX8_carries_91 rfl (lv_at hl 0 rfl) ?_
    refine va_get (D := D) (ci := 12) (v := .ref a_t_told) (C := RX8) (T := TX8) (N := 22) hx hb hts iX8_carries_X8 hown hK hP 0 rfl rfl 12 (by decide) (hts (.fieldLink RX8 29 "SkipArchiveModel" "told" "[I") (List.mem_of_getElem? (i := 2) rfl)) (fun _ h9 => h9) rfl dX8_carries_92 ?_
    refine lv_iconst (v := 2) hx hb dX8_carries_95 (by decide) ?_
    obtain ⟨g_96, hF⟩ := gi_i hF
    refine va_iald hx hb hK hP 2 0 rfl rfl g_96 dX8_carries_96 ?_
    refine lv_if_lt (tgt := 104) hx hb dX8_carries_97 (by decide) (fun c_97 => ?_) (fun c_97 => ?_)
    · have hF := ift hF c_97
      refine lv_iconst (v := 0) hx hb dX8_carries_104 (by decide) ?_
      obtain ⟨r_105, t_reason_105, t_detail_105, t_index_105, t_answer_105, t_now_105, hq_105, hF⟩ := bn6_i hF
      refine cm_Vi (As := [.int (t_told (0 : Int32).toNatClampNeg), .int (t_told (1 : Int32).toNatClampNeg), .int (t_told (2 : Int32).toNatClampNeg), .int (0 : Int32)]) (rest := []) (wr := [(a_t_told, .inl (y 0, 3, .inl t_told))]) ⟨hx, hb, hml, hown, hts⟩ (c_X8_files l D y fl s.heap.size a_t a_t_now a_t_tried a_t_kept a_t_saved a_t_line a_t_text a_t_told a_t_way t_undos t_isSaved t_lined t_length t_at t_order t_fault t_reason t_detail t_index t_answer t_thrown t_went t_fell t_now (t_told (0 : Int32).toNatClampNeg) (t_told (1 : Int32).toNatClampNeg) (t_told (2 : Int32).toNatClampNeg) (0 : Int32) r_105 t_reason_105 t_detail_105 t_index_105 t_answer_105 t_now_105 hq_105) (cwV 4 hts gX8_carries_X8_files rfl rfl rfl (by decide +kernel) ⟨Nat.le_of_ble_eq_true rfl, Nat.le_of_ble_eq_true rfl⟩) hK hP hD hS hA [0, 1] [2] rfl rfl rfl rfl (by decide) rfl rfl rfl hl.1 rfl (Nat.le_of_ble_eq_true rfl) dX8_carries_105 ⟨Nat.le_of_ble_eq_true rfl, Nat.le_of_ble_eq_true rfl⟩ (fun H locs hP hD hS => ?_)
      have hP : va_P D vwCl [(a_t_told, .inl (y 0, 3, .inl t_told)), (a_t, .inr (12, [.ref a_t_now, .ref a_t_tried, .ref a_t_kept, .int t_undos, .ref a_t_saved, .int t_isSaved, .ref a_t_line, .int t_lined, .ref a_t_text, .int t_length, .int t_at, .int t_order, .ref a_t_told, .int t_fault, .int t_reason_105, .int t_detail_105, .int t_index_105, .int t_answer_105, .int t_thrown, .ref a_t_way, .int t_went, .int t_fell])), (a_t_now, .inl (y 0, 77, .inl t_now_105))] H := hP
      have hD : va_D A [(a_t_told, .inl (y 0, 3, .inl t_told)), (a_t, .inr (12, [.ref a_t_now, .ref a_t_tried, .ref a_t_kept, .int t_undos, .ref a_t_saved, .int t_isSaved, .ref a_t_line, .int t_lined, .ref a_t_text, .int t_length, .int t_at, .int t_order, .ref a_t_told, .int t_fault, .int t_reason_105, .int t_detail_105, .int t_index_105, .int t_answer_105, .int t_thrown, .ref a_t_way, .int t_went, .int t_fell])), (a_t_now, .inl (y 0, 77, .inl t_now_105))] := hD
      obtain ⟨g_108, hF⟩ := gd_i hF
      obtain ⟨e0_108, e1_108, e2_108, e3_108, e4_108, e5_108⟩ := inj6 hF
      rw [← e0_108, ← e1_108, ← e2_108, ← e3_108, ← e4_108, ← e5_108] at hQ0
      rw [hQ0]
      exact ret_z hx hb hr (okB_n g_108).1 hlocks hAe hK hP hD hS [1, 2, 0] rfl rfl dX8_carries_108
    · have hF := iff_ hF c_97
      refine lv_iconst (v := 1) hx hb dX8_carries_100 (by decide) ?_
      refine lv_goto (tgt := 105) hx hb dX8_carries_101 (by decide) ?_
      obtain ⟨r_105b, t_reason_105b, t_detail_105b, t_index_105b, t_answer_105b, t_now_105b, hq_105b, hF⟩ := bn6_i hF
      refine cm_Vi (As := [.int (t_told (0 : Int32).toNatClampNeg), .int (t_told (1 : Int32).toNatClampNeg), .int (t_told (2 : Int32).toNatClampNeg), .int (1 : Int32)]) (rest := []) (wr := [(a_t_told, .inl (y 0, 3, .inl t_told))]) ⟨hx, hb, hml, hown, hts⟩ (c_X8_files l D y fl s.heap.size a_t a_t_now a_t_tried a_t_kept a_t_saved a_t_line a_t_text a_t_told a_t_way t_undos t_isSaved t_lined t_length t_at t_order t_fault t_reason t_detail t_index t_answer t_thrown t_went t_fell t_now (t_told (0 : Int32).toNatClampNeg) (t_told (1 : Int32).toNatClampNeg) (t_told (2 : Int32).toNatClampNeg) (1 : Int32) r_105b t_reason_105b t_detail_105b t_index_105b t_answer_105b t_now_105b hq_105b) (cwV 4 hts gX8_carries_X8_files rfl rfl rfl (by decide +kernel) ⟨Nat.le_of_ble_eq_true rfl, Nat.le_of_ble_eq_true rfl⟩) hK hP hD hS hA [0, 1] [2] rfl rfl rfl rfl (by decide) rfl rfl rfl hl.1 rfl (Nat.le_of_ble_eq_true rfl) dX8_carries_105 ⟨Nat.le_of_ble_eq_true rfl, Nat.le_of_ble_eq_true rfl⟩ (fun H locs hP hD hS => ?_)
      have hP : va_P D vwCl [(a_t_told, .inl (y 0, 3, .inl t_told)), (a_t, .inr (12, [.ref a_t_now, .ref a_t_tried, .ref a_t_kept, .int t_undos, .ref a_t_saved, .int t_isSaved, .ref a_t_line, .int t_lined, .ref a_t_text, .int t_length, .int t_at, .int t_order, .ref a_t_told, .int t_fault, .int t_reason_105b, .int t_detail_105b, .int t_index_105b, .int t_answer_105b, .int t_thrown, .ref a_t_way, .int t_went, .int t_fell])), (a_t_now, .inl (y 0, 77, .inl t_now_105b))] H := hP
      have hD : va_D A [(a_t_told, .inl (y 0, 3, .inl t_told)), (a_t, .inr (12, [.ref a_t_now, .ref a_t_tried, .ref a_t_kept, .int t_undos, .ref a_t_saved, .int t_isSaved, .ref a_t_line, .int t_lined, .ref a_t_text, .int t_length, .int t_at, .int t_order, .ref a_t_told, .int t_fault, .int t_reason_105b, .int t_detail_105b, .int t_index_105b, .int t_answer_105b, .int t_thrown, .ref a_t_way, .int t_went, .int t_fell])), (a_t_now, .inl (y 0, 77, .inl t_now_105b))] := hD
      obtain ⟨g_108b, hF⟩ := gd_i hF
      obtain ⟨e0_108, e1_108, e2_108, e3_108, e4_108, e5_108⟩ := inj6 hF
      rw [← e0_108, ← e1_108, ← e2_108, ← e3_108, ← e4_108, ← e5_108] at hQ0
      rw [hQ0]
      exact ret_z hx hb hr (okB_n g_108b).1 hlocks hAe hK hP hD hS [1, 2, 0] rfl rfl dX8_carries_108
  · have hF := iff_ hF c43_4
    by_cases c45_4 : t_order = (45 : Int32)
    · have hF := ift hF c45_4
      refine lv_lookup (tgt := 109) hx hb dX8_carries_4 (by decide) (by first | (rw [c45_4]; done) | (rw [c45_4]; decide +kernel)) (by decide) ?_
      refine lv_aload_n hx hb dX8_carries_109 rfl (lv_at hl 0 rfl) ?_
      refine lv_aload_n hx hb dX8_carries_110 rfl (lv_at hl 0 rfl) ?_
      refine va_get (D := D) (ci := 12) (v := .ref a_t_told) (C := RX8) (T := TX8) (N := 22) hx hb hts iX8_carries_X8 hown hK hP 0 rfl rfl 12 (by decide) (hts (.fieldLink RX8 29 "SkipArchiveModel" "told" "[I") (List.mem_of_getElem? (i := 2) rfl)) (fun _ h9 => h9) rfl dX8_carries_111 ?_
      refine lv_iconst (v := 0) hx hb dX8_carries_114 (by decide) ?_
      obtain ⟨g_115, hF⟩ := gi_i hF
      refine va_iald hx hb hK hP 2 0 rfl rfl g_115 dX8_carries_115 ?_
      obtain ⟨r_116, t_reason_116, t_detail_116, t_index_116, t_answer_116, t_now_116, hq_116, hF⟩ := bn6_i hF
      refine cm_Vi (As := [.int (t_told (0 : Int32).toNatClampNeg)]) (rest := []) (wr := [(a_t_told, .inl (y 0, 3, .inl t_told))]) ⟨hx, hb, hml, hown, hts⟩ (c_X8_drops l D y fl s.heap.size a_t a_t_now a_t_tried a_t_kept a_t_saved a_t_line a_t_text a_t_told a_t_way t_undos t_isSaved t_lined t_length t_at t_order t_fault t_reason t_detail t_index t_answer t_thrown t_went t_fell t_now (t_told (0 : Int32).toNatClampNeg) r_116 t_reason_116 t_detail_116 t_index_116 t_answer_116 t_now_116 hq_116) (cwV 1 hts gX8_carries_X8_drops rfl rfl rfl (by decide +kernel) ⟨Nat.le_of_ble_eq_true rfl, Nat.le_of_ble_eq_true rfl⟩) hK hP hD hS hA [0, 1] [2] rfl rfl rfl rfl (by decide) rfl rfl rfl hl.1 rfl (Nat.le_of_ble_eq_true rfl) dX8_carries_116 ⟨Nat.le_of_ble_eq_true rfl, Nat.le_of_ble_eq_true rfl⟩ (fun H locs hP hD hS => ?_)
      have hP : va_P D vwCl [(a_t_told, .inl (y 0, 3, .inl t_told)), (a_t, .inr (12, [.ref a_t_now, .ref a_t_tried, .ref a_t_kept, .int t_undos, .ref a_t_saved, .int t_isSaved, .ref a_t_line, .int t_lined, .ref a_t_text, .int t_length, .int t_at, .int t_order, .ref a_t_told, .int t_fault, .int t_reason_116, .int t_detail_116, .int t_index_116, .int t_answer_116, .int t_thrown, .ref a_t_way, .int t_went, .int t_fell])), (a_t_now, .inl (y 0, 77, .inl t_now_116))] H := hP
      have hD : va_D A [(a_t_told, .inl (y 0, 3, .inl t_told)), (a_t, .inr (12, [.ref a_t_now, .ref a_t_tried, .ref a_t_kept, .int t_undos, .ref a_t_saved, .int t_isSaved, .ref a_t_line, .int t_lined, .ref a_t_text, .int t_length, .int t_at, .int t_order, .ref a_t_told, .int t_fault, .int t_reason_116, .int t_detail_116, .int t_index_116, .int t_answer_116, .int t_thrown, .ref a_t_way, .int t_went, .int t_fell])), (a_t_now, .inl (y 0, 77, .inl t_now_116))] := hD
      obtain ⟨g_119, hF⟩ := gd_i hF
      obtain ⟨e0_119, e1_119, e2_119, e3_119, e4_119, e5_119⟩ := inj6 hF
      rw [← e0_119, ← e1_119, ← e2_119, ← e3_119, ← e4_119, ← e5_119] at hQ0
      rw [hQ0]
      exact ret_z hx hb hr (okB_n g_119).1 hlocks hAe hK hP hD hS [1, 2, 0] rfl rfl dX8_carries_119
    · have hF := iff_ hF c45_4
      by_cases c100_4 : t_order = (100 : Int32)
      · have hF := ift hF c100_4
        refine lv_lookup (tgt := 132) hx hb dX8_carries_4 (by decide) (by first | (rw [c100_4]; done) | (rw [c100_4]; decide +kernel)) (by decide) ?_
        refine lv_aload_n hx hb dX8_carries_132 rfl (lv_at hl 0 rfl) ?_
        refine lv_aload_n hx hb dX8_carries_133 rfl (lv_at hl 0 rfl) ?_
        refine va_get (D := D) (ci := 12) (v := .ref a_t_told) (C := RX8) (T := TX8) (N := 22) hx hb hts iX8_carries_X8 hown hK hP 0 rfl rfl 12 (by decide) (hts (.fieldLink RX8 29 "SkipArchiveModel" "told" "[I") (List.mem_of_getElem? (i := 2) rfl)) (fun _ h9 => h9) rfl dX8_carries_134 ?_
        refine lv_iconst (v := 0) hx hb dX8_carries_137 (by decide) ?_
        obtain ⟨g_138, hF⟩ := gi_i hF
        refine va_iald hx hb hK hP 2 0 rfl rfl g_138 dX8_carries_138 ?_
        refine lv_iconst (v := -1) hx hb dX8_carries_139 (by decide) ?_
        obtain ⟨r_140, t_reason_140, t_detail_140, t_index_140, t_answer_140, t_now_140, hq_140, hF⟩ := bn6_i hF
        refine cm_Vi (As := [.int (t_told (0 : Int32).toNatClampNeg), .int (-1 : Int32)]) (rest := []) (wr := [(a_t_told, .inl (y 0, 3, .inl t_told))]) ⟨hx, hb, hml, hown, hts⟩ (c_X8_turns l D y fl s.heap.size a_t a_t_now a_t_tried a_t_kept a_t_saved a_t_line a_t_text a_t_told a_t_way t_undos t_isSaved t_lined t_length t_at t_order t_fault t_reason t_detail t_index t_answer t_thrown t_went t_fell t_now (t_told (0 : Int32).toNatClampNeg) (-1 : Int32) r_140 t_reason_140 t_detail_140 t_index_140 t_answer_140 t_now_140 hq_140) (cwV 2 hts gX8_carries_X8_turns rfl rfl rfl (by decide +kernel) ⟨Nat.le_of_ble_eq_true rfl, Nat.le_of_ble_eq_true rfl⟩) hK hP hD hS hA [0, 1] [2] rfl rfl rfl rfl (by decide) rfl rfl rfl hl.1 rfl (Nat.le_of_ble_eq_true rfl) dX8_carries_140 ⟨Nat.le_of_ble_eq_true rfl, Nat.le_of_ble_eq_true rfl⟩ (fun H locs hP hD hS => ?_)
        have hP : va_P D vwCl [(a_t_told, .inl (y 0, 3, .inl t_told)), (a_t, .inr (12, [.ref a_t_now, .ref a_t_tried, .ref a_t_kept, .int t_undos, .ref a_t_saved, .int t_isSaved, .ref a_t_line, .int t_lined, .ref a_t_text, .int t_length, .int t_at, .int t_order, .ref a_t_told, .int t_fault, .int t_reason_140, .int t_detail_140, .int t_index_140, .int t_answer_140, .int t_thrown, .ref a_t_way, .int t_went, .int t_fell])), (a_t_now, .inl (y 0, 77, .inl t_now_140))] H := hP
        have hD : va_D A [(a_t_told, .inl (y 0, 3, .inl t_told)), (a_t, .inr (12, [.ref a_t_now, .ref a_t_tried, .ref a_t_kept, .int t_undos, .ref a_t_saved, .int t_isSaved, .ref a_t_line, .int t_lined, .ref a_t_text, .int t_length, .int t_at, .int t_order, .ref a_t_told, .int t_fault, .int t_reason_140, .int t_detail_140, .int t_index_140, .int t_answer_140, .int t_thrown, .ref a_t_way, .int t_went, .int t_fell])), (a_t_now, .inl (y 0, 77, .inl t_now_140))] := hD
        obtain ⟨g_143, hF⟩ := gd_i hF
        obtain ⟨e0_143, e1_143, e2_143, e3_143, e4_143, e5_143⟩ := inj6 hF
        rw [← e0_143, ← e1_143, ← e2_143, ← e3_143, ← e4_143, ← e5_143] at hQ0
        rw [hQ0]
        exact ret_z hx hb hr (okB_n g_143).1 hlocks hAe hK hP hD hS [1, 2, 0] rfl rfl dX8_carries_143
      · have hF := iff_ hF c100_4
        by_cases c102_4 : t_order = (102 : Int32)
        · have hF := ift hF c102_4
          refine lv_lookup (tgt := 144) hx hb dX8_carries_4 (by decide) (by first | (rw [c102_4]; done) | (rw [c102_4]; decide +kernel)) (by decide) ?_
          refine lv_aload_n hx hb dX8_carries_144 rfl (lv_at hl 0 rfl) ?_
          refine lv_aload_n hx hb dX8_carries_145 rfl (lv_at hl 0 rfl) ?_
          refine va_get (D := D) (ci := 12) (v := .ref a_t_told) (C := RX8) (T := TX8) (N := 22) hx hb hts iX8_carries_X8 hown hK hP 0 rfl rfl 12 (by decide) (hts (.fieldLink RX8 29 "SkipArchiveModel" "told" "[I") (List.mem_of_getElem? (i := 2) rfl)) (fun _ h9 => h9) rfl dX8_carries_146 ?_
          refine lv_iconst (v := 0) hx hb dX8_carries_149 (by decide) ?_
          obtain ⟨g_150, hF⟩ := gi_i hF
          refine va_iald hx hb hK hP 2 0 rfl rfl g_150 dX8_carries_150 ?_
          refine lv_iconst (v := 1) hx hb dX8_carries_151 (by decide) ?_
          obtain ⟨r_152, t_reason_152, t_detail_152, t_index_152, t_answer_152, t_now_152, hq_152, hF⟩ := bn6_i hF
          refine cm_Vi (As := [.int (t_told (0 : Int32).toNatClampNeg), .int (1 : Int32)]) (rest := []) (wr := [(a_t_told, .inl (y 0, 3, .inl t_told))]) ⟨hx, hb, hml, hown, hts⟩ (c_X8_puts l D y fl s.heap.size a_t a_t_now a_t_tried a_t_kept a_t_saved a_t_line a_t_text a_t_told a_t_way t_undos t_isSaved t_lined t_length t_at t_order t_fault t_reason t_detail t_index t_answer t_thrown t_went t_fell t_now (t_told (0 : Int32).toNatClampNeg) (1 : Int32) r_152 t_reason_152 t_detail_152 t_index_152 t_answer_152 t_now_152 hq_152) (cwV 2 hts gX8_carries_X8_puts rfl rfl rfl (by decide +kernel) ⟨Nat.le_of_ble_eq_true rfl, Nat.le_of_ble_eq_true rfl⟩) hK hP hD hS hA [0, 1] [2] rfl rfl rfl rfl (by decide) rfl rfl rfl hl.1 rfl (Nat.le_of_ble_eq_true rfl) dX8_carries_152 ⟨Nat.le_of_ble_eq_true rfl, Nat.le_of_ble_eq_true rfl⟩ (fun H locs hP hD hS => ?_)
          have hP : va_P D vwCl [(a_t_told, .inl (y 0, 3, .inl t_told)), (a_t, .inr (12, [.ref a_t_now, .ref a_t_tried, .ref a_t_kept, .int t_undos, .ref a_t_saved, .int t_isSaved, .ref a_t_line, .int t_lined, .ref a_t_text, .int t_length, .int t_at, .int t_order, .ref a_t_told, .int t_fault, .int t_reason_152, .int t_detail_152, .int t_index_152, .int t_answer_152, .int t_thrown, .ref a_t_way, .int t_went, .int t_fell])), (a_t_now, .inl (y 0, 77, .inl t_now_152))] H := hP
          have hD : va_D A [(a_t_told, .inl (y 0, 3, .inl t_told)), (a_t, .inr (12, [.ref a_t_now, .ref a_t_tried, .ref a_t_kept, .int t_undos, .ref a_t_saved, .int t_isSaved, .ref a_t_line, .int t_lined, .ref a_t_text, .int t_length, .int t_at, .int t_order, .ref a_t_told, .int t_fault, .int t_reason_152, .int t_detail_152, .int t_index_152, .int t_answer_152, .int t_thrown, .ref a_t_way, .int t_went, .int t_fell])), (a_t_now, .inl (y 0, 77, .inl t_now_152))] := hD
          obtain ⟨g_155, hF⟩ := gd_i hF
          obtain ⟨e0_155, e1_155, e2_155, e3_155, e4_155, e5_155⟩ := inj6 hF
          rw [← e0_155, ← e1_155, ← e2_155, ← e3_155, ← e4_155, ← e5_155] at hQ0
          rw [hQ0]
          exact ret_z hx hb hr (okB_n g_155).1 hlocks hAe hK hP hD hS [1, 2, 0] rfl rfl dX8_carries_155
        · have hF := iff_ hF c102_4
          by_cases c114_4 : t_order = (114 : Int32)
          · have hF := ift hF c114_4
            refine lv_lookup (tgt := 156) hx hb dX8_carries_4 (by decide) (by first | (rw [c114_4]; done) | (rw [c114_4]; decide +kernel)) (by decide) ?_
            refine lv_aload_n hx hb dX8_carries_156 rfl (lv_at hl 0 rfl) ?_
            refine lv_aload_n hx hb dX8_carries_157 rfl (lv_at hl 0 rfl) ?_
            refine va_get (D := D) (ci := 12) (v := .ref a_t_told) (C := RX8) (T := TX8) (N := 22) hx hb hts iX8_carries_X8 hown hK hP 0 rfl rfl 12 (by decide) (hts (.fieldLink RX8 29 "SkipArchiveModel" "told" "[I") (List.mem_of_getElem? (i := 2) rfl)) (fun _ h9 => h9) rfl dX8_carries_158 ?_
            refine lv_iconst (v := 0) hx hb dX8_carries_161 (by decide) ?_
            obtain ⟨g_162, hF⟩ := gi_i hF
            refine va_iald hx hb hK hP 2 0 rfl rfl g_162 dX8_carries_162 ?_
            refine lv_iconst (v := 0) hx hb dX8_carries_163 (by decide) ?_
            obtain ⟨r_164, t_reason_164, t_detail_164, t_index_164, t_answer_164, t_now_164, hq_164, hF⟩ := bn6_i hF
            refine cm_Vi (As := [.int (t_told (0 : Int32).toNatClampNeg), .int (0 : Int32)]) (rest := []) (wr := [(a_t_told, .inl (y 0, 3, .inl t_told))]) ⟨hx, hb, hml, hown, hts⟩ (c_X8_puts l D y fl s.heap.size a_t a_t_now a_t_tried a_t_kept a_t_saved a_t_line a_t_text a_t_told a_t_way t_undos t_isSaved t_lined t_length t_at t_order t_fault t_reason t_detail t_index t_answer t_thrown t_went t_fell t_now (t_told (0 : Int32).toNatClampNeg) (0 : Int32) r_164 t_reason_164 t_detail_164 t_index_164 t_answer_164 t_now_164 hq_164) (cwV 2 hts gX8_carries_X8_puts rfl rfl rfl (by decide +kernel) ⟨Nat.le_of_ble_eq_true rfl, Nat.le_of_ble_eq_true rfl⟩) hK hP hD hS hA [0, 1] [2] rfl rfl rfl rfl (by decide) rfl rfl rfl hl.1 rfl (Nat.le_of_ble_eq_true rfl) dX8_carries_164 ⟨Nat.le_of_ble_eq_true rfl, Nat.le_of_ble_eq_true rfl⟩ (fun H locs hP hD hS => ?_)
            have hP : va_P D vwCl [(a_t_told, .inl (y 0, 3, .inl t_told)), (a_t, .inr (12, [.ref a_t_now, .ref a_t_tried, .ref a_t_kept, .int t_undos, .ref a_t_saved, .int t_isSaved, .ref a_t_line, .int t_lined, .ref a_t_text, .int t_length, .int t_at, .int t_order, .ref a_t_told, .int t_fault, .int t_reason_164, .int t_detail_164, .int t_index_164, .int t_answer_164, .int t_thrown, .ref a_t_way, .int t_went, .int t_fell])), (a_t_now, .inl (y 0, 77, .inl t_now_164))] H := hP
            have hD : va_D A [(a_t_told, .inl (y 0, 3, .inl t_told)), (a_t, .inr (12, [.ref a_t_now, .ref a_t_tried, .ref a_t_kept, .int t_undos, .ref a_t_saved, .int t_isSaved, .ref a_t_line, .int t_lined, .ref a_t_text, .int t_length, .int t_at, .int t_order, .ref a_t_told, .int t_fault, .int t_reason_164, .int t_detail_164, .int t_index_164, .int t_answer_164, .int t_thrown, .ref a_t_way, .int t_went, .int t_fell])), (a_t_now, .inl (y 0, 77, .inl t_now_164))] := hD
            obtain ⟨g_167, hF⟩ := gd_i hF
            obtain ⟨e0_167, e1_167, e2_167, e3_167, e4_167, e5_167⟩ := inj6 hF
            rw [← e0_167, ← e1_167, ← e2_167, ← e3_167, ← e4_167, ← e5_167] at hQ0
            rw [hQ0]
            exact ret_z hx hb hr (okB_n g_167).1 hlocks hAe hK hP hD hS [1, 2, 0] rfl rfl dX8_carries_167
          · have hF := iff_ hF c114_4
            by_cases c117_4 : t_order = (117 : Int32)
            · have hF := ift hF c117_4
              refine lv_lookup (tgt := 120) hx hb dX8_carries_4 (by decide) (by first | (rw [c117_4]; done) | (rw [c117_4]; decide +kernel)) (by decide) ?_
              refine lv_aload_n hx hb dX8_carries_120 rfl (lv_at hl 0 rfl) ?_
              refine lv_aload_n hx hb dX8_carries_121 rfl (lv_at hl 0 rfl) ?_
              refine va_get (D := D) (ci := 12) (v := .ref a_t_told) (C := RX8) (T := TX8) (N := 22) hx hb hts iX8_carries_X8 hown hK hP 0 rfl rfl 12 (by decide) (hts (.fieldLink RX8 29 "SkipArchiveModel" "told" "[I") (List.mem_of_getElem? (i := 2) rfl)) (fun _ h9 => h9) rfl dX8_carries_122 ?_
              refine lv_iconst (v := 0) hx hb dX8_carries_125 (by decide) ?_
              obtain ⟨g_126, hF⟩ := gi_i hF
              refine va_iald hx hb hK hP 2 0 rfl rfl g_126 dX8_carries_126 ?_
              refine lv_iconst (v := 1) hx hb dX8_carries_127 (by decide) ?_
              obtain ⟨r_128, t_reason_128, t_detail_128, t_index_128, t_answer_128, t_now_128, hq_128, hF⟩ := bn6_i hF
              refine cm_Vi (As := [.int (t_told (0 : Int32).toNatClampNeg), .int (1 : Int32)]) (rest := []) (wr := [(a_t_told, .inl (y 0, 3, .inl t_told))]) ⟨hx, hb, hml, hown, hts⟩ (c_X8_turns l D y fl s.heap.size a_t a_t_now a_t_tried a_t_kept a_t_saved a_t_line a_t_text a_t_told a_t_way t_undos t_isSaved t_lined t_length t_at t_order t_fault t_reason t_detail t_index t_answer t_thrown t_went t_fell t_now (t_told (0 : Int32).toNatClampNeg) (1 : Int32) r_128 t_reason_128 t_detail_128 t_index_128 t_answer_128 t_now_128 hq_128) (cwV 2 hts gX8_carries_X8_turns rfl rfl rfl (by decide +kernel) ⟨Nat.le_of_ble_eq_true rfl, Nat.le_of_ble_eq_true rfl⟩) hK hP hD hS hA [0, 1] [2] rfl rfl rfl rfl (by decide) rfl rfl rfl hl.1 rfl (Nat.le_of_ble_eq_true rfl) dX8_carries_128 ⟨Nat.le_of_ble_eq_true rfl, Nat.le_of_ble_eq_true rfl⟩ (fun H locs hP hD hS => ?_)
              have hP : va_P D vwCl [(a_t_told, .inl (y 0, 3, .inl t_told)), (a_t, .inr (12, [.ref a_t_now, .ref a_t_tried, .ref a_t_kept, .int t_undos, .ref a_t_saved, .int t_isSaved, .ref a_t_line, .int t_lined, .ref a_t_text, .int t_length, .int t_at, .int t_order, .ref a_t_told, .int t_fault, .int t_reason_128, .int t_detail_128, .int t_index_128, .int t_answer_128, .int t_thrown, .ref a_t_way, .int t_went, .int t_fell])), (a_t_now, .inl (y 0, 77, .inl t_now_128))] H := hP
              have hD : va_D A [(a_t_told, .inl (y 0, 3, .inl t_told)), (a_t, .inr (12, [.ref a_t_now, .ref a_t_tried, .ref a_t_kept, .int t_undos, .ref a_t_saved, .int t_isSaved, .ref a_t_line, .int t_lined, .ref a_t_text, .int t_length, .int t_at, .int t_order, .ref a_t_told, .int t_fault, .int t_reason_128, .int t_detail_128, .int t_index_128, .int t_answer_128, .int t_thrown, .ref a_t_way, .int t_went, .int t_fell])), (a_t_now, .inl (y 0, 77, .inl t_now_128))] := hD
              obtain ⟨g_131, hF⟩ := gd_i hF
              obtain ⟨e0_131, e1_131, e2_131, e3_131, e4_131, e5_131⟩ := inj6 hF
              rw [← e0_131, ← e1_131, ← e2_131, ← e3_131, ← e4_131, ← e5_131] at hQ0
              rw [hQ0]
              exact ret_z hx hb hr (okB_n g_131).1 hlocks hAe hK hP hD hS [1, 2, 0] rfl rfl dX8_carries_131
            · have hF := iff_ hF c117_4
              by_cases c119_4 : t_order = (119 : Int32)
              · have hF := ift hF c119_4
                refine lv_lookup (tgt := 168) hx hb dX8_carries_4 (by decide) (by first | (rw [c119_4]; done) | (rw [c119_4]; decide +kernel)) (by decide) ?_
                refine lv_aload_n hx hb dX8_carries_168 rfl (lv_at hl 0 rfl) ?_
                refine lv_aload_n hx hb dX8_carries_169 rfl (lv_at hl 0 rfl) ?_
                refine va_get (D := D) (ci := 12) (v := .ref a_t_told) (C := RX8) (T := TX8) (N := 22) hx hb hts iX8_carries_X8 hown hK hP 0 rfl rfl 12 (by decide) (hts (.fieldLink RX8 29 "SkipArchiveModel" "told" "[I") (List.mem_of_getElem? (i := 2) rfl)) (fun _ h9 => h9) rfl dX8_carries_170 ?_
                refine lv_iconst (v := 0) hx hb dX8_carries_173 (by decide) ?_
                obtain ⟨g_174, hF⟩ := gi_i hF
                refine va_iald hx hb hK hP 2 0 rfl rfl g_174 dX8_carries_174 ?_
                refine lv_aload_n hx hb dX8_carries_175 rfl (lv_at hl 0 rfl) ?_
                refine va_get (D := D) (ci := 12) (v := .ref a_t_told) (C := RX8) (T := TX8) (N := 22) hx hb hts iX8_carries_X8 hown hK hP 0 rfl rfl 12 (by decide) (hts (.fieldLink RX8 29 "SkipArchiveModel" "told" "[I") (List.mem_of_getElem? (i := 2) rfl)) (fun _ h9 => h9) rfl dX8_carries_176 ?_
                refine lv_iconst (v := 1) hx hb dX8_carries_179 (by decide) ?_
                obtain ⟨g_180, hF⟩ := gi_i hF
                refine va_iald hx hb hK hP 2 0 rfl rfl g_180 dX8_carries_180 ?_
                obtain ⟨r_181, t_reason_181, t_detail_181, t_index_181, t_answer_181, t_now_181, hq_181, hF⟩ := bn6_i hF
                refine cm_Vi (As := [.int (t_told (0 : Int32).toNatClampNeg), .int (t_told (1 : Int32).toNatClampNeg)]) (rest := []) (wr := [(a_t_told, .inl (y 0, 3, .inl t_told))]) ⟨hx, hb, hml, hown, hts⟩ (c_X8_weighs l D y fl s.heap.size a_t a_t_now a_t_tried a_t_kept a_t_saved a_t_line a_t_text a_t_told a_t_way t_undos t_isSaved t_lined t_length t_at t_order t_fault t_reason t_detail t_index t_answer t_thrown t_went t_fell t_now (t_told (0 : Int32).toNatClampNeg) (t_told (1 : Int32).toNatClampNeg) r_181 t_reason_181 t_detail_181 t_index_181 t_answer_181 t_now_181 hq_181) (cwV 2 hts gX8_carries_X8_weighs rfl rfl rfl (by decide +kernel) ⟨Nat.le_of_ble_eq_true rfl, Nat.le_of_ble_eq_true rfl⟩) hK hP hD hS hA [0, 1] [2] rfl rfl rfl rfl (by decide) rfl rfl rfl hl.1 rfl (Nat.le_of_ble_eq_true rfl) dX8_carries_181 ⟨Nat.le_of_ble_eq_true rfl, Nat.le_of_ble_eq_true rfl⟩ (fun H locs hP hD hS => ?_)
                have hP : va_P D vwCl [(a_t_told, .inl (y 0, 3, .inl t_told)), (a_t, .inr (12, [.ref a_t_now, .ref a_t_tried, .ref a_t_kept, .int t_undos, .ref a_t_saved, .int t_isSaved, .ref a_t_line, .int t_lined, .ref a_t_text, .int t_length, .int t_at, .int t_order, .ref a_t_told, .int t_fault, .int t_reason_181, .int t_detail_181, .int t_index_181, .int t_answer_181, .int t_thrown, .ref a_t_way, .int t_went, .int t_fell])), (a_t_now, .inl (y 0, 77, .inl t_now_181))] H := hP
                have hD : va_D A [(a_t_told, .inl (y 0, 3, .inl t_told)), (a_t, .inr (12, [.ref a_t_now, .ref a_t_tried, .ref a_t_kept, .int t_undos, .ref a_t_saved, .int t_isSaved, .ref a_t_line, .int t_lined, .ref a_t_text, .int t_length, .int t_at, .int t_order, .ref a_t_told, .int t_fault, .int t_reason_181, .int t_detail_181, .int t_index_181, .int t_answer_181, .int t_thrown, .ref a_t_way, .int t_went, .int t_fell])), (a_t_now, .inl (y 0, 77, .inl t_now_181))] := hD
                obtain ⟨g_184, hF⟩ := gd_i hF
                obtain ⟨e0_184, e1_184, e2_184, e3_184, e4_184, e5_184⟩ := inj6 hF
                rw [← e0_184, ← e1_184, ← e2_184, ← e3_184, ← e4_184, ← e5_184] at hQ0
                rw [hQ0]
                exact ret_z hx hb hr (okB_n g_184).1 hlocks hAe hK hP hD hS [1, 2, 0] rfl rfl dX8_carries_184
              · have hF := iff_ hF c119_4
                refine lv_lookup (tgt := 185) (off := 181) hx hb dX8_carries_4 (by decide) (by refine (lv_osw c43_4 (by decide)).trans ?_; refine (lv_osw c45_4 (by decide)).trans ?_; refine (lv_osw c100_4 (by decide)).trans ?_; refine (lv_osw c102_4 (by decide)).trans ?_; refine (lv_osw c114_4 (by decide)).trans ?_; refine (lv_osw c117_4 (by decide)).trans ?_; refine (lv_osw c119_4 (by decide)).trans ?_; rfl) (by decide) ?_
                refine lv_aload_n hx hb dX8_carries_185 rfl (lv_at hl 0 rfl) ?_
                refine lv_aload_n hx hb dX8_carries_186 rfl (lv_at hl 0 rfl) ?_
                obtain ⟨r_187, t_now_187, hq_187, hF⟩ := bn2_i hF
                refine cm_Vi (As := []) (rest := [.ref a_t]) (wr := [(a_t_told, .inl (y 0, 3, .inl t_told))]) ⟨hx, hb, hml, hown, hts⟩ (c_X8_tosses l D y fl s.heap.size a_t a_t_now a_t_tried a_t_kept a_t_saved a_t_line a_t_text a_t_told a_t_way t_undos t_isSaved t_lined t_length t_at t_order t_fault t_reason t_detail t_index t_answer t_thrown t_went t_fell t_now r_187 t_now_187 hq_187) (cwV 0 hts gX8_carries_X8_tosses rfl rfl rfl (by decide +kernel) ⟨Nat.le_of_ble_eq_true rfl, Nat.le_of_ble_eq_true rfl⟩) hK hP hD hS hA [0, 1] [2] rfl rfl rfl rfl (by decide) rfl rfl rfl hl.1 rfl (Nat.le_of_ble_eq_true rfl) dX8_carries_187 ⟨Nat.le_of_ble_eq_true rfl, Nat.le_of_ble_eq_true rfl⟩ (fun H locs hP hD hS => ?_)
                have hP : va_P D vwCl [(a_t_told, .inl (y 0, 3, .inl t_told)), (a_t, .inr (12, [.ref a_t_now, .ref a_t_tried, .ref a_t_kept, .int t_undos, .ref a_t_saved, .int t_isSaved, .ref a_t_line, .int t_lined, .ref a_t_text, .int t_length, .int t_at, .int t_order, .ref a_t_told, .int t_fault, .int t_reason, .int t_detail, .int t_index, .int t_answer, .int t_thrown, .ref a_t_way, .int t_went, .int t_fell])), (a_t_now, .inl (y 0, 77, .inl t_now_187))] H := hP
                have hD : va_D A [(a_t_told, .inl (y 0, 3, .inl t_told)), (a_t, .inr (12, [.ref a_t_now, .ref a_t_tried, .ref a_t_kept, .int t_undos, .ref a_t_saved, .int t_isSaved, .ref a_t_line, .int t_lined, .ref a_t_text, .int t_length, .int t_at, .int t_order, .ref a_t_told, .int t_fault, .int t_reason, .int t_detail, .int t_index, .int t_answer, .int t_thrown, .ref a_t_way, .int t_went, .int t_fell])), (a_t_now, .inl (y 0, 77, .inl t_now_187))] := hD
                refine lv_if_eq (tgt := 197) hx hb dX8_carries_190 (by decide) (fun c_190 => ?_) (fun c_190 => ?_)
                · have hF := ift hF c_190
                  refine lv_iconst (v := 0) hx hb dX8_carries_197 (by decide) ?_
                  obtain ⟨r_198, t_answer_198, hq_198, hF⟩ := bn2_i hF
                  refine cm_Vi (As := [.int (0 : Int32)]) (rest := []) (wr := [(a_t_told, .inl (y 0, 3, .inl t_told)), (a_t_now, .inl (y 0, 77, .inl t_now_187))]) ⟨hx, hb, hml, hown, hts⟩ (c_X8_does l D y fl H.size a_t a_t_now a_t_tried a_t_kept a_t_saved a_t_line a_t_text a_t_told a_t_way t_undos t_isSaved t_lined t_length t_at t_order t_fault t_reason t_detail t_index t_answer t_thrown t_went t_fell (0 : Int32) r_198 t_answer_198 hq_198) (cwV 1 hts gX8_carries_X8_does rfl rfl rfl (by decide +kernel) ⟨Nat.le_of_ble_eq_true rfl, Nat.le_of_ble_eq_true rfl⟩) hK hP hD hS hA [1] [0, 2] rfl rfl rfl rfl (by decide) rfl rfl rfl hl.1 rfl (Nat.le_of_ble_eq_true rfl) dX8_carries_198 ⟨Nat.le_of_ble_eq_true rfl, Nat.le_of_ble_eq_true rfl⟩ (fun H locs hP hD hS => ?_)
                  have hP : va_P D vwCl [(a_t_told, .inl (y 0, 3, .inl t_told)), (a_t_now, .inl (y 0, 77, .inl t_now_187)), (a_t, .inr (12, [.ref a_t_now, .ref a_t_tried, .ref a_t_kept, .int t_undos, .ref a_t_saved, .int t_isSaved, .ref a_t_line, .int t_lined, .ref a_t_text, .int t_length, .int t_at, .int t_order, .ref a_t_told, .int t_fault, .int t_reason, .int t_detail, .int t_index, .int t_answer_198, .int t_thrown, .ref a_t_way, .int t_went, .int t_fell]))] H := hP
                  have hD : va_D A [(a_t_told, .inl (y 0, 3, .inl t_told)), (a_t_now, .inl (y 0, 77, .inl t_now_187)), (a_t, .inr (12, [.ref a_t_now, .ref a_t_tried, .ref a_t_kept, .int t_undos, .ref a_t_saved, .int t_isSaved, .ref a_t_line, .int t_lined, .ref a_t_text, .int t_length, .int t_at, .int t_order, .ref a_t_told, .int t_fault, .int t_reason, .int t_detail, .int t_index, .int t_answer_198, .int t_thrown, .ref a_t_way, .int t_went, .int t_fell]))] := hD
                  obtain ⟨g_201, hF⟩ := gd_i hF
                  obtain ⟨e0_201, e1_201, e2_201, e3_201, e4_201, e5_201⟩ := inj6 hF
                  rw [← e0_201, ← e1_201, ← e2_201, ← e3_201, ← e4_201, ← e5_201] at hQ0
                  rw [hQ0]
                  exact ret_z hx hb hr (okB_n g_201).1 hlocks hAe hK hP hD hS [2, 1, 0] rfl rfl dX8_carries_201
                · have hF := iff_ hF c_190
                  refine lv_iconst (v := 1) hx hb dX8_carries_193 (by decide) ?_
                  refine lv_goto (tgt := 198) hx hb dX8_carries_194 (by decide) ?_
                  obtain ⟨r_198b, t_answer_198b, hq_198b, hF⟩ := bn2_i hF
                  refine cm_Vi (As := [.int (1 : Int32)]) (rest := []) (wr := [(a_t_told, .inl (y 0, 3, .inl t_told)), (a_t_now, .inl (y 0, 77, .inl t_now_187))]) ⟨hx, hb, hml, hown, hts⟩ (c_X8_does l D y fl H.size a_t a_t_now a_t_tried a_t_kept a_t_saved a_t_line a_t_text a_t_told a_t_way t_undos t_isSaved t_lined t_length t_at t_order t_fault t_reason t_detail t_index t_answer t_thrown t_went t_fell (1 : Int32) r_198b t_answer_198b hq_198b) (cwV 1 hts gX8_carries_X8_does rfl rfl rfl (by decide +kernel) ⟨Nat.le_of_ble_eq_true rfl, Nat.le_of_ble_eq_true rfl⟩) hK hP hD hS hA [1] [0, 2] rfl rfl rfl rfl (by decide) rfl rfl rfl hl.1 rfl (Nat.le_of_ble_eq_true rfl) dX8_carries_198 ⟨Nat.le_of_ble_eq_true rfl, Nat.le_of_ble_eq_true rfl⟩ (fun H locs hP hD hS => ?_)
                  have hP : va_P D vwCl [(a_t_told, .inl (y 0, 3, .inl t_told)), (a_t_now, .inl (y 0, 77, .inl t_now_187)), (a_t, .inr (12, [.ref a_t_now, .ref a_t_tried, .ref a_t_kept, .int t_undos, .ref a_t_saved, .int t_isSaved, .ref a_t_line, .int t_lined, .ref a_t_text, .int t_length, .int t_at, .int t_order, .ref a_t_told, .int t_fault, .int t_reason, .int t_detail, .int t_index, .int t_answer_198b, .int t_thrown, .ref a_t_way, .int t_went, .int t_fell]))] H := hP
                  have hD : va_D A [(a_t_told, .inl (y 0, 3, .inl t_told)), (a_t_now, .inl (y 0, 77, .inl t_now_187)), (a_t, .inr (12, [.ref a_t_now, .ref a_t_tried, .ref a_t_kept, .int t_undos, .ref a_t_saved, .int t_isSaved, .ref a_t_line, .int t_lined, .ref a_t_text, .int t_length, .int t_at, .int t_order, .ref a_t_told, .int t_fault, .int t_reason, .int t_detail, .int t_index, .int t_answer_198b, .int t_thrown, .ref a_t_way, .int t_went, .int t_fell]))] := hD
                  obtain ⟨g_201b, hF⟩ := gd_i hF
                  obtain ⟨e0_201, e1_201, e2_201, e3_201, e4_201, e5_201⟩ := inj6 hF
                  rw [← e0_201, ← e1_201, ← e2_201, ← e3_201, ← e4_201, ← e5_201] at hQ0
                  rw [hQ0]
                  exact ret_z hx hb hr (okB_n g_201b).1 hlocks hAe hK hP hD hS [2, 1, 0] rfl rfl dX8_carries_201
def F_X8_commands_91 (fl : Nat) (t_text : Nat → Int32) : Nat → Int32 → Int32 → Int32 → Int32 → Int32 → Int32 → Int32 → Int32 → Int32 → Int32 → (Nat → Int32) → (Nat → Int32) → (Nat → Int32) → (Nat → Int32) → Int32 → Int32 → Int32 → Option (Int32 × Int32 × Int32 × Int32 × Int32 × Int32 × Int32 × Int32 × Int32 × Int32 × Int32 × (Nat → Int32) × (Nat → Int32) × (Nat → Int32) × (Nat → Int32))
  | 0, _, _, _, _, _, _, _, _, _, _, _, _, _, _, _, _, _ => none
  | n + 1, t_undos_w, t_length_w, t_at_w, t_order_w, t_fault_w, t_reason_w, t_detail_w, t_index_w, t_answer_w, t_thrown_w, t_now_w, t_tried_w, t_kept_w, t_told_w, x1, x2, x3 => if x3 = 0 then (if x1 = 0 then (bn (F_X8_comesBack fl t_now_w t_tried_w) fun t_now_165 => bn2 (F_X8_raises fl t_thrown_w (2 : Int32)) fun r_170 t_thrown_170 => some (r_170, t_undos_w, (0 : Int32), t_at_w, t_order_w, t_fault_w, t_reason_w, t_detail_w, x2, t_answer_w, t_thrown_170, t_now_165, t_tried_w, t_kept_w, t_told_w)) else (bn3 (F_X8_keeps fl t_undos_w t_tried_w t_kept_w x2) fun r_155 t_undos_155 t_kept_155 => some (r_155, t_undos_155, (0 : Int32), t_at_w, t_order_w, t_fault_w, t_reason_w, t_detail_w, t_index_w, t_answer_w, t_thrown_w, t_now_w, t_tried_w, t_kept_155, t_told_w))) else (bn4 (F_X8_isCommand fl t_length_w t_at_w t_order_w t_text t_told_w) fun r_96 t_at_96 t_order_96 t_told_96 => if r_96 = 0 then (if (0 : Int32) = 0 then (if (0 : Int32) = 0 then (F_X8_commands_91 fl t_text n t_undos_w t_length_w t_at_96 t_order_96 t_fault_w t_reason_w t_detail_w t_index_w t_answer_w t_thrown_w t_now_w t_tried_w t_kept_w t_told_96 (0 : Int32) x2 (0 : Int32)) else (bn2 (F_X8_sign fl t_length_w t_at_96 t_text (59 : Int32)) fun r_129 t_at_129 => if r_129 = 0 then (F_X8_commands_91 fl t_text n t_undos_w t_length_w t_at_129 t_order_96 t_fault_w t_reason_w t_detail_w t_index_w t_answer_w t_thrown_w t_now_w t_tried_w t_kept_w t_told_96 (0 : Int32) x2 (0 : Int32)) else (F_X8_commands_91 fl t_text n t_undos_w t_length_w t_at_129 t_order_96 t_fault_w t_reason_w t_detail_w t_index_w t_answer_w t_thrown_w t_now_w t_tried_w t_kept_w t_told_96 (0 : Int32) x2 (1 : Int32)))) else (if (0 : Int32) = 0 then (F_X8_commands_91 fl t_text n t_undos_w t_length_w t_at_96 t_order_96 t_fault_w t_reason_w t_detail_w t_index_w t_answer_w t_thrown_w t_now_w t_tried_w t_kept_w t_told_96 (0 : Int32) (x2 + (1 : Int32)) (0 : Int32)) else (bn2 (F_X8_sign fl t_length_w t_at_96 t_text (59 : Int32)) fun r_129b t_at_129b => if r_129b = 0 then (F_X8_commands_91 fl t_text n t_undos_w t_length_w t_at_129b t_order_96 t_fault_w t_reason_w t_detail_w t_index_w t_answer_w t_thrown_w t_now_w t_tried_w t_kept_w t_told_96 (0 : Int32) (x2 + (1 : Int32)) (0 : Int32)) else (F_X8_commands_91 fl t_text n t_undos_w t_length_w t_at_129b t_order_96 t_fault_w t_reason_w t_detail_w t_index_w t_answer_w t_thrown_w t_now_w t_tried_w t_kept_w t_told_96 (0 : Int32) (x2 + (1 : Int32)) (1 : Int32))))) else (bn6 (F_X8_carries fl t_order_96 t_reason_w t_detail_w t_index_w t_answer_w t_now_w t_told_96) fun r_103 t_reason_103 t_detail_103 t_index_103 t_answer_103 t_now_103 => if r_103 = 0 then (if (0 : Int32) = 0 then (if (0 : Int32) = 0 then (F_X8_commands_91 fl t_text n t_undos_w t_length_w t_at_96 t_order_96 t_fault_w t_reason_103 t_detail_103 t_index_103 t_answer_103 t_thrown_w t_now_103 t_tried_w t_kept_w t_told_96 (0 : Int32) x2 (0 : Int32)) else (bn2 (F_X8_sign fl t_length_w t_at_96 t_text (59 : Int32)) fun r_129bb t_at_129bb => if r_129bb = 0 then (F_X8_commands_91 fl t_text n t_undos_w t_length_w t_at_129bb t_order_96 t_fault_w t_reason_103 t_detail_103 t_index_103 t_answer_103 t_thrown_w t_now_103 t_tried_w t_kept_w t_told_96 (0 : Int32) x2 (0 : Int32)) else (F_X8_commands_91 fl t_text n t_undos_w t_length_w t_at_129bb t_order_96 t_fault_w t_reason_103 t_detail_103 t_index_103 t_answer_103 t_thrown_w t_now_103 t_tried_w t_kept_w t_told_96 (0 : Int32) x2 (1 : Int32)))) else (if (0 : Int32) = 0 then (F_X8_commands_91 fl t_text n t_undos_w t_length_w t_at_96 t_order_96 t_fault_w t_reason_103 t_detail_103 t_index_103 t_answer_103 t_thrown_w t_now_103 t_tried_w t_kept_w t_told_96 (0 : Int32) (x2 + (1 : Int32)) (0 : Int32)) else (bn2 (F_X8_sign fl t_length_w t_at_96 t_text (59 : Int32)) fun r_129bbb t_at_129bbb => if r_129bbb = 0 then (F_X8_commands_91 fl t_text n t_undos_w t_length_w t_at_129bbb t_order_96 t_fault_w t_reason_103 t_detail_103 t_index_103 t_answer_103 t_thrown_w t_now_103 t_tried_w t_kept_w t_told_96 (0 : Int32) (x2 + (1 : Int32)) (0 : Int32)) else (F_X8_commands_91 fl t_text n t_undos_w t_length_w t_at_129bbb t_order_96 t_fault_w t_reason_103 t_detail_103 t_index_103 t_answer_103 t_thrown_w t_now_103 t_tried_w t_kept_w t_told_96 (0 : Int32) (x2 + (1 : Int32)) (1 : Int32))))) else (if (1 : Int32) = 0 then (if (1 : Int32) = 0 then (F_X8_commands_91 fl t_text n t_undos_w t_length_w t_at_96 t_order_96 t_fault_w t_reason_103 t_detail_103 t_index_103 t_answer_103 t_thrown_w t_now_103 t_tried_w t_kept_w t_told_96 (1 : Int32) x2 (0 : Int32)) else (bn2 (F_X8_sign fl t_length_w t_at_96 t_text (59 : Int32)) fun r_129bbbb t_at_129bbbb => if r_129bbbb = 0 then (F_X8_commands_91 fl t_text n t_undos_w t_length_w t_at_129bbbb t_order_96 t_fault_w t_reason_103 t_detail_103 t_index_103 t_answer_103 t_thrown_w t_now_103 t_tried_w t_kept_w t_told_96 (1 : Int32) x2 (0 : Int32)) else (F_X8_commands_91 fl t_text n t_undos_w t_length_w t_at_129bbbb t_order_96 t_fault_w t_reason_103 t_detail_103 t_index_103 t_answer_103 t_thrown_w t_now_103 t_tried_w t_kept_w t_told_96 (1 : Int32) x2 (1 : Int32)))) else (if (1 : Int32) = 0 then (F_X8_commands_91 fl t_text n t_undos_w t_length_w t_at_96 t_order_96 t_fault_w t_reason_103 t_detail_103 t_index_103 t_answer_103 t_thrown_w t_now_103 t_tried_w t_kept_w t_told_96 (1 : Int32) (x2 + (1 : Int32)) (0 : Int32)) else (bn2 (F_X8_sign fl t_length_w t_at_96 t_text (59 : Int32)) fun r_129bbbbb t_at_129bbbbb => if r_129bbbbb = 0 then (F_X8_commands_91 fl t_text n t_undos_w t_length_w t_at_129bbbbb t_order_96 t_fault_w t_reason_103 t_detail_103 t_index_103 t_answer_103 t_thrown_w t_now_103 t_tried_w t_kept_w t_told_96 (1 : Int32) (x2 + (1 : Int32)) (0 : Int32)) else (F_X8_commands_91 fl t_text n t_undos_w t_length_w t_at_129bbbbb t_order_96 t_fault_w t_reason_103 t_detail_103 t_index_103 t_answer_103 t_thrown_w t_now_103 t_tried_w t_kept_w t_told_96 (1 : Int32) (x2 + (1 : Int32)) (1 : Int32)))))))
def F_X8_commands_19 (fl : Nat) (t_text : Nat → Int32) : Nat → Int32 → Int32 → Int32 → Int32 → Int32 → Int32 → Int32 → Int32 → Int32 → Int32 → (Nat → Int32) → (Nat → Int32) → (Nat → Int32) → (Nat → Int32) → Int32 → Option (Int32 × Int32 × Int32 × Int32 × Int32 × Int32 × Int32 × Int32 × Int32 × Int32 × Int32 × (Nat → Int32) × (Nat → Int32) × (Nat → Int32) × (Nat → Int32))
  | 0, _, _, _, _, _, _, _, _, _, _, _, _, _, _, _ => none
  | n + 1, t_undos_w, t_length_w, t_at_w, t_order_w, t_fault_w, t_reason_w, t_detail_w, t_index_w, t_answer_w, t_thrown_w, t_now_w, t_tried_w, t_kept_w, t_told_w, x1 => if x1 = 0 then (if x1 = 0 then (bn2 (F_X8_raises fl t_thrown_w (1 : Int32)) fun r_78 t_thrown_78 => some (r_78, t_undos_w, (0 : Int32), t_at_w, t_order_w, t_at_w, t_reason_w, t_detail_w, t_index_w, t_answer_w, t_thrown_78, t_now_w, t_tried_w, t_kept_w, t_told_w)) else (F_X8_commands_91 fl t_text fl t_undos_w t_length_w (0 : Int32) t_order_w t_fault_w t_reason_w t_detail_w t_index_w t_answer_w t_thrown_w t_now_w t_tried_w t_kept_w t_told_w x1 (0 : Int32) (1 : Int32))) else (if t_length_w ≤ t_at_w then (if x1 = 0 then (bn2 (F_X8_raises fl t_thrown_w (1 : Int32)) fun r_78b t_thrown_78b => some (r_78b, t_undos_w, (0 : Int32), t_at_w, t_order_w, t_at_w, t_reason_w, t_detail_w, t_index_w, t_answer_w, t_thrown_78b, t_now_w, t_tried_w, t_kept_w, t_told_w)) else (F_X8_commands_91 fl t_text fl t_undos_w t_length_w (0 : Int32) t_order_w t_fault_w t_reason_w t_detail_w t_index_w t_answer_w t_thrown_w t_now_w t_tried_w t_kept_w t_told_w x1 (0 : Int32) (1 : Int32))) else (bn2 (F_X8_sign fl t_length_w t_at_w t_text (59 : Int32)) fun r_37 t_at_37 => if r_37 = 0 then (F_X8_commands_19 fl t_text n t_undos_w t_length_w t_at_37 t_order_w t_fault_w t_reason_w t_detail_w t_index_w t_answer_w t_thrown_w t_now_w t_tried_w t_kept_w t_told_w (0 : Int32)) else (bn4 (F_X8_isCommand fl t_length_w t_at_37 t_order_w t_text t_told_w) fun r_44 t_at_44 t_order_44 t_told_44 => if r_44 = 0 then (F_X8_commands_19 fl t_text n t_undos_w t_length_w t_at_44 t_order_44 t_fault_w t_reason_w t_detail_w t_index_w t_answer_w t_thrown_w t_now_w t_tried_w t_kept_w t_told_44 (0 : Int32)) else (F_X8_commands_19 fl t_text n t_undos_w t_length_w t_at_44 t_order_44 t_fault_w t_reason_w t_detail_w t_index_w t_answer_w t_thrown_w t_now_w t_tried_w t_kept_w t_told_44 (1 : Int32)))))
def F_X8_commands (fl : Nat) (t_undos : Int32) (t_length : Int32) (t_at : Int32) (t_order : Int32) (t_fault : Int32) (t_reason : Int32) (t_detail : Int32) (t_index : Int32) (t_answer : Int32) (t_thrown : Int32) (t_now : Nat → Int32) (t_tried : Nat → Int32) (t_kept : Nat → Int32) (t_text : Nat → Int32) (t_told : Nat → Int32) : Option (Int32 × Int32 × Int32 × Int32 × Int32 × Int32 × Int32 × Int32 × Int32 × Int32 × Int32 × (Nat → Int32) × (Nat → Int32) × (Nat → Int32) × (Nat → Int32)) := bn2 (F_X8_tries fl t_thrown t_now t_tried) fun t_thrown_1 t_tried_1 => bn4 (F_X8_isCommand fl t_length (0 : Int32) t_order t_text t_told) fun r_15 t_at_15 t_order_15 t_told_15 => F_X8_commands_19 fl t_text fl t_undos t_length t_at_15 t_order_15 (-1 : Int32) t_reason t_detail t_index t_answer t_thrown_1 t_now t_tried_1 t_kept t_told_15 r_15
theorem iX8_commands_X8 : ∀ w ∈ u_ws RX8 TX8 22, w ∈ wsX8_commands := fun w h => List.mem_cons_of_mem _ (List.mem_append_left _ (List.mem_append_right _ h))
set_option maxHeartbeats 4000000 in
set_option maxRecDepth 100000 in
theorem c_X8_commands (l : Launch) (D : va_G) (y : Nat → ClassId) (fl : Nat) (sz : Nat) (a_t : Nat) (a_t_now : Nat) (a_t_tried : Nat) (a_t_kept : Nat) (a_t_saved : Nat) (a_t_line : Nat) (a_t_text : Nat) (a_t_told : Nat) (a_t_way : Nat) (t_undos : Int32) (t_isSaved : Int32) (t_lined : Int32) (t_length : Int32) (t_at : Int32) (t_order : Int32) (t_fault : Int32) (t_reason : Int32) (t_detail : Int32) (t_index : Int32) (t_answer : Int32) (t_thrown : Int32) (t_went : Int32) (t_fell : Int32) (t_now : Nat → Int32) (t_tried : Nat → Int32) (t_kept : Nat → Int32) (t_text : Nat → Int32) (t_told : Nat → Int32) (r : Int32) (t_undos' : Int32) (t_length' : Int32) (t_at' : Int32) (t_order' : Int32) (t_fault' : Int32) (t_reason' : Int32) (t_detail' : Int32) (t_index' : Int32) (t_answer' : Int32) (t_thrown' : Int32) (t_now' : Nat → Int32) (t_tried' : Nat → Int32) (t_kept' : Nat → Int32) (t_told' : Nat → Int32) (hF : F_X8_commands fl t_undos t_length t_at t_order t_fault t_reason t_detail t_index t_answer t_thrown t_now t_tried t_kept t_text t_told = some (r, t_undos', t_length', t_at', t_order', t_fault', t_reason', t_detail', t_index', t_answer', t_thrown', t_now', t_tried', t_kept', t_told')) : Met l yX8_commands wsX8_commands (rmq 6 131) (wrP D y [(a_t, .inr (12, [.ref a_t_now, .ref a_t_tried, .ref a_t_kept, .int t_undos, .ref a_t_saved, .int t_isSaved, .ref a_t_line, .int t_lined, .ref a_t_text, .int t_length, .int t_at, .int t_order, .ref a_t_told, .int t_fault, .int t_reason, .int t_detail, .int t_index, .int t_answer, .int t_thrown, .ref a_t_way, .int t_went, .int t_fell])), (a_t_now, .inl (y 0, 77, .inl t_now)), (a_t_tried, .inl (y 0, 77, .inl t_tried)), (a_t_kept, .inl (y 0, 616, .inl t_kept)), (a_t_text, .inl (y 1, 60, .inl t_text)), (a_t_told, .inl (y 0, 3, .inl t_told))] sz [.ref a_t]) (wQi D y r [(a_t, .inr (12, [.ref a_t_now, .ref a_t_tried, .ref a_t_kept, .int t_undos', .ref a_t_saved, .int t_isSaved, .ref a_t_line, .int t_lined, .ref a_t_text, .int t_length', .int t_at', .int t_order', .ref a_t_told, .int t_fault', .int t_reason', .int t_detail', .int t_index', .int t_answer', .int t_thrown', .ref a_t_way, .int t_went, .int t_fell])), (a_t_now, .inl (y 0, 77, .inl t_now')), (a_t_tried, .inl (y 0, 77, .inl t_tried')), (a_t_kept, .inl (y 0, 616, .inl t_kept')), (a_t_text, .inl (y 1, 60, .inl t_text)), (a_t_told, .inl (y 0, 3, .inl t_told'))] [(a_t, .inr (12, [.ref a_t_now, .ref a_t_tried, .ref a_t_kept, .int t_undos, .ref a_t_saved, .int t_isSaved, .ref a_t_line, .int t_lined, .ref a_t_text, .int t_length, .int t_at, .int t_order, .ref a_t_told, .int t_fault, .int t_reason, .int t_detail, .int t_index, .int t_answer, .int t_thrown, .ref a_t_way, .int t_went, .int t_fell])), (a_t_now, .inl (y 0, 77, .inl t_now)), (a_t_tried, .inl (y 0, 77, .inl t_tried)), (a_t_kept, .inl (y 0, 616, .inl t_kept)), (a_t_text, .inl (y 1, 60, .inl t_text)), (a_t_told, .inl (y 0, 3, .inl t_told))] sz) 0 0 (va_A [(a_t, .inr (12, [.ref a_t_now, .ref a_t_tried, .ref a_t_kept, .int t_undos, .ref a_t_saved, .int t_isSaved, .ref a_t_line, .int t_lined, .ref a_t_text, .int t_length, .int t_at, .int t_order, .ref a_t_told, .int t_fault, .int t_reason, .int t_detail, .int t_index, .int t_answer, .int t_thrown, .ref a_t_way, .int t_went, .int t_fell])), (a_t_now, .inl (y 0, 77, .inl t_now)), (a_t_tried, .inl (y 0, 77, .inl t_tried)), (a_t_kept, .inl (y 0, 616, .inl t_kept)), (a_t_text, .inl (y 1, 60, .inl t_text)), (a_t_told, .inl (y 0, 3, .inl t_told))] sz) := by
  refine Met.ofW (cc := cX8_commands) (maxL := 4) (ret := (some .int)) (by decide) rfl ?_
  intro p e s m args below meth c s₁ B hml hv
  obtain ⟨hav, hsz, hP, hK, hD0⟩ := hv
  have hx := B.exec
  have hb := B.bytes
  have hr := B.returns
  have hts := atoms_spec (ws := wsX8_commands) B.pre
  have hown : s.vm.findClass RX8 = some m.cls := findClass_of_methodNamed B.named
  have hlocks := B.notSynchronized
  subst hsz
  have hD := hD0.self (sz := s.heap.size)
  obtain ⟨A, hAe⟩ : ∃ A : Nat → Prop, va_A [(a_t, .inr (12, [.ref a_t_now, .ref a_t_tried, .ref a_t_kept, .int t_undos, .ref a_t_saved, .int t_isSaved, .ref a_t_line, .int t_lined, .ref a_t_text, .int t_length, .int t_at, .int t_order, .ref a_t_told, .int t_fault, .int t_reason, .int t_detail, .int t_index, .int t_answer, .int t_thrown, .ref a_t_way, .int t_went, .int t_fell])), (a_t_now, .inl (y 0, 77, .inl t_now)), (a_t_tried, .inl (y 0, 77, .inl t_tried)), (a_t_kept, .inl (y 0, 616, .inl t_kept)), (a_t_text, .inl (y 1, 60, .inl t_text)), (a_t_told, .inl (y 0, 3, .inl t_told))] s.heap.size = A := ⟨_, rfl⟩
  rw [hAe] at hD
  have hA : ∀ q, s.heap.size ≤ q → A q := fun q h => by rw [← hAe]; exact Or.inr h
  have hS : va_S A s.heap s.heap [] := va_S.rf
  refine W_q (R1 := (rmq 6 131)) rfl (fun Q0 hQ0 => ?_)
  unfold F_X8_commands at hF
  have k_91 : ∀ (n : Nat) (t_undos_w : Int32) (t_length_w : Int32) (t_at_w : Int32) (t_order_w : Int32) (t_fault_w : Int32) (t_reason_w : Int32) (t_detail_w : Int32) (t_index_w : Int32) (t_answer_w : Int32) (t_thrown_w : Int32) (t_now_w : Nat → Int32) (t_tried_w : Nat → Int32) (t_kept_w : Nat → Int32) (t_told_w : Nat → Int32) (x1 : Int32) (x2 : Int32) (x3 : Int32), F_X8_commands_91 fl t_text n t_undos_w t_length_w t_at_w t_order_w t_fault_w t_reason_w t_detail_w t_index_w t_answer_w t_thrown_w t_now_w t_tried_w t_kept_w t_told_w x1 x2 x3 = some (r, t_undos', t_length', t_at', t_order', t_fault', t_reason', t_detail', t_index', t_answer', t_thrown', t_now', t_tried', t_kept', t_told') → ∀ (H : Heap) (locs : List Loc), va_P D vwCl [(a_t, .inr (12, [.ref a_t_now, .ref a_t_tried, .ref a_t_kept, .int t_undos_w, .ref a_t_saved, .int t_isSaved, .ref a_t_line, .int t_lined, .ref a_t_text, .int t_length_w, .int t_at_w, .int t_order_w, .ref a_t_told, .int t_fault_w, .int t_reason_w, .int t_detail_w, .int t_index_w, .int t_answer_w, .int t_thrown_w, .ref a_t_way, .int t_went, .int t_fell])), (a_t_now, .inl (y 0, 77, .inl t_now_w)), (a_t_tried, .inl (y 0, 77, .inl t_tried_w)), (a_t_kept, .inl (y 0, 616, .inl t_kept_w)), (a_t_text, .inl (y 1, 60, .inl t_text)), (a_t_told, .inl (y 0, 3, .inl t_told_w))] H → va_D A [(a_t, .inr (12, [.ref a_t_now, .ref a_t_tried, .ref a_t_kept, .int t_undos_w, .ref a_t_saved, .int t_isSaved, .ref a_t_line, .int t_lined, .ref a_t_text, .int t_length_w, .int t_at_w, .int t_order_w, .ref a_t_told, .int t_fault_w, .int t_reason_w, .int t_detail_w, .int t_index_w, .int t_answer_w, .int t_thrown_w, .ref a_t_way, .int t_went, .int t_fell])), (a_t_now, .inl (y 0, 77, .inl t_now_w)), (a_t_tried, .inl (y 0, 77, .inl t_tried_w)), (a_t_kept, .inl (y 0, 616, .inl t_kept_w)), (a_t_text, .inl (y 1, 60, .inl t_text)), (a_t_told, .inl (y 0, 3, .inl t_told_w))] → va_S A s.heap H locs → ∀ (ls : Array Slot), lv_has ls 4 [(0, .ref a_t), (1, .int x1), (2, .int x2), (3, .int x3)] → W p l e (rmq 6 131) s m args below meth c H locs 0 0 Q0 (F0 m 91 ls []) := by
    intro n
    induction n with
    | zero => intro t_undos_w t_length_w t_at_w t_order_w t_fault_w t_reason_w t_detail_w t_index_w t_answer_w t_thrown_w t_now_w t_tried_w t_kept_w t_told_w x1 x2 x3 hF; rw [F_X8_commands_91] at hF; cases hF
    | succ n ih =>
      intro t_undos_w t_length_w t_at_w t_order_w t_fault_w t_reason_w t_detail_w t_index_w t_answer_w t_thrown_w t_now_w t_tried_w t_kept_w t_told_w x1 x2 x3 hF H locs hP hD hS ls hl
      rw [F_X8_commands_91] at hF
      refine lv_iload_n hx hb dX8_commands_91 rfl (lv_at hl 3 rfl) ?_
      refine lv_if_eq (tgt := 144) hx hb dX8_commands_92 (by decide) (fun c_92 => ?_) (fun c_92 => ?_)
      · have hF := ift hF c_92
        refine lv_aload_n hx hb dX8_commands_144 rfl (lv_at hl 0 rfl) ?_
        refine lv_iconst (v := 0) hx hb dX8_commands_145 (by decide) ?_
        refine va_put (D := D) (ci := 12) (v := .int (0 : Int32)) (ty := .int) (C := RX8) (T := TX8) (N := 22) hx hb hts iX8_commands_X8 tyX8 tyX8_ok nmX8 hown hK hP hD hS 0 rfl rfl 9 (by decide) (hts (.fieldLink RX8 167 "SkipArchiveModel" "length" "I") (List.mem_of_getElem? (i := 3) rfl)) (fun _ h9 => h9) rfl (by decide +kernel) rfl rfl (Nat.le_of_ble_eq_true rfl) dX8_commands_146 (fun H locs hP hD hS => ?_)
        have hP : va_P D vwCl [(a_t, .inr (12, [.ref a_t_now, .ref a_t_tried, .ref a_t_kept, .int t_undos_w, .ref a_t_saved, .int t_isSaved, .ref a_t_line, .int t_lined, .ref a_t_text, .int (0 : Int32), .int t_at_w, .int t_order_w, .ref a_t_told, .int t_fault_w, .int t_reason_w, .int t_detail_w, .int t_index_w, .int t_answer_w, .int t_thrown_w, .ref a_t_way, .int t_went, .int t_fell])), (a_t_now, .inl (y 0, 77, .inl t_now_w)), (a_t_tried, .inl (y 0, 77, .inl t_tried_w)), (a_t_kept, .inl (y 0, 616, .inl t_kept_w)), (a_t_text, .inl (y 1, 60, .inl t_text)), (a_t_told, .inl (y 0, 3, .inl t_told_w))] H := hP
        have hD : va_D A [(a_t, .inr (12, [.ref a_t_now, .ref a_t_tried, .ref a_t_kept, .int t_undos_w, .ref a_t_saved, .int t_isSaved, .ref a_t_line, .int t_lined, .ref a_t_text, .int (0 : Int32), .int t_at_w, .int t_order_w, .ref a_t_told, .int t_fault_w, .int t_reason_w, .int t_detail_w, .int t_index_w, .int t_answer_w, .int t_thrown_w, .ref a_t_way, .int t_went, .int t_fell])), (a_t_now, .inl (y 0, 77, .inl t_now_w)), (a_t_tried, .inl (y 0, 77, .inl t_tried_w)), (a_t_kept, .inl (y 0, 616, .inl t_kept_w)), (a_t_text, .inl (y 1, 60, .inl t_text)), (a_t_told, .inl (y 0, 3, .inl t_told_w))] := hD
        refine lv_iload_n hx hb dX8_commands_149 rfl (lv_at hl 1 rfl) ?_
        refine lv_if_eq (tgt := 159) hx hb dX8_commands_150 (by decide) (fun c_150 => ?_) (fun c_150 => ?_)
        · have hF := ift hF c_150
          refine lv_aload_n hx hb dX8_commands_159 rfl (lv_at hl 0 rfl) ?_
          refine lv_iload_n hx hb dX8_commands_160 rfl (lv_at hl 2 rfl) ?_
          refine va_put (D := D) (ci := 12) (v := .int x2) (ty := .int) (C := RX8) (T := TX8) (N := 22) hx hb hts iX8_commands_X8 tyX8 tyX8_ok nmX8 hown hK hP hD hS 0 rfl rfl 16 (by decide) (hts (.fieldLink RX8 54 "SkipArchiveModel" "index" "I") (List.mem_of_getElem? (i := 4) rfl)) (fun _ h9 => h9) rfl (by decide +kernel) rfl rfl (Nat.le_of_ble_eq_true rfl) dX8_commands_161 (fun H locs hP hD hS => ?_)
          have hP : va_P D vwCl [(a_t, .inr (12, [.ref a_t_now, .ref a_t_tried, .ref a_t_kept, .int t_undos_w, .ref a_t_saved, .int t_isSaved, .ref a_t_line, .int t_lined, .ref a_t_text, .int (0 : Int32), .int t_at_w, .int t_order_w, .ref a_t_told, .int t_fault_w, .int t_reason_w, .int t_detail_w, .int x2, .int t_answer_w, .int t_thrown_w, .ref a_t_way, .int t_went, .int t_fell])), (a_t_now, .inl (y 0, 77, .inl t_now_w)), (a_t_tried, .inl (y 0, 77, .inl t_tried_w)), (a_t_kept, .inl (y 0, 616, .inl t_kept_w)), (a_t_text, .inl (y 1, 60, .inl t_text)), (a_t_told, .inl (y 0, 3, .inl t_told_w))] H := hP
          have hD : va_D A [(a_t, .inr (12, [.ref a_t_now, .ref a_t_tried, .ref a_t_kept, .int t_undos_w, .ref a_t_saved, .int t_isSaved, .ref a_t_line, .int t_lined, .ref a_t_text, .int (0 : Int32), .int t_at_w, .int t_order_w, .ref a_t_told, .int t_fault_w, .int t_reason_w, .int t_detail_w, .int x2, .int t_answer_w, .int t_thrown_w, .ref a_t_way, .int t_went, .int t_fell])), (a_t_now, .inl (y 0, 77, .inl t_now_w)), (a_t_tried, .inl (y 0, 77, .inl t_tried_w)), (a_t_kept, .inl (y 0, 616, .inl t_kept_w)), (a_t_text, .inl (y 1, 60, .inl t_text)), (a_t_told, .inl (y 0, 3, .inl t_told_w))] := hD
          refine lv_aload_n hx hb dX8_commands_164 rfl (lv_at hl 0 rfl) ?_
          obtain ⟨t_now_165, hq_165, hF⟩ := bn_i hF
          refine cm_Vv (As := []) (rest := []) (wr := [(a_t_kept, .inl (y 0, 616, .inl t_kept_w)), (a_t_text, .inl (y 1, 60, .inl t_text)), (a_t_told, .inl (y 0, 3, .inl t_told_w))]) ⟨hx, hb, hml, hown, hts⟩ (c_X8_comesBack l D y fl H.size a_t a_t_now a_t_tried a_t_kept a_t_saved a_t_line a_t_text a_t_told a_t_way t_undos_w t_isSaved t_lined (0 : Int32) t_at_w t_order_w t_fault_w t_reason_w t_detail_w x2 t_answer_w t_thrown_w t_went t_fell t_now_w t_tried_w t_now_165 hq_165) (cwV 0 hts gX8_commands_X8_comesBack rfl rfl rfl (by decide +kernel) ⟨Nat.le_of_ble_eq_true rfl, Nat.le_of_ble_eq_true rfl⟩) hK hP hD hS hA [0, 1, 2] [3, 4, 5] rfl rfl rfl rfl (by decide) rfl rfl rfl hl.1 rfl (Nat.le_of_ble_eq_true rfl) dX8_commands_165 ⟨Nat.le_of_ble_eq_true rfl, Nat.le_of_ble_eq_true rfl⟩ (fun H locs hP hD hS => ?_)
          have hP : va_P D vwCl [(a_t_kept, .inl (y 0, 616, .inl t_kept_w)), (a_t_text, .inl (y 1, 60, .inl t_text)), (a_t_told, .inl (y 0, 3, .inl t_told_w)), (a_t, .inr (12, [.ref a_t_now, .ref a_t_tried, .ref a_t_kept, .int t_undos_w, .ref a_t_saved, .int t_isSaved, .ref a_t_line, .int t_lined, .ref a_t_text, .int (0 : Int32), .int t_at_w, .int t_order_w, .ref a_t_told, .int t_fault_w, .int t_reason_w, .int t_detail_w, .int x2, .int t_answer_w, .int t_thrown_w, .ref a_t_way, .int t_went, .int t_fell])), (a_t_now, .inl (y 0, 77, .inl t_now_165)), (a_t_tried, .inl (y 0, 77, .inl t_tried_w))] H := hP
          have hD : va_D A [(a_t_kept, .inl (y 0, 616, .inl t_kept_w)), (a_t_text, .inl (y 1, 60, .inl t_text)), (a_t_told, .inl (y 0, 3, .inl t_told_w)), (a_t, .inr (12, [.ref a_t_now, .ref a_t_tried, .ref a_t_kept, .int t_undos_w, .ref a_t_saved, .int t_isSaved, .ref a_t_line, .int t_lined, .ref a_t_text, .int (0 : Int32), .int t_at_w, .int t_order_w, .ref a_t_told, .int t_fault_w, .int t_reason_w, .int t_detail_w, .int x2, .int t_answer_w, .int t_thrown_w, .ref a_t_way, .int t_went, .int t_fell])), (a_t_now, .inl (y 0, 77, .inl t_now_165)), (a_t_tried, .inl (y 0, 77, .inl t_tried_w))] := hD
          refine lv_aload_n hx hb dX8_commands_168 rfl (lv_at hl 0 rfl) ?_
          refine lv_iconst (v := 2) hx hb dX8_commands_169 (by decide) ?_
          obtain ⟨r_170, t_thrown_170, hq_170, hF⟩ := bn2_i hF
          refine cm_Vi (As := [.int (2 : Int32)]) (rest := []) (wr := [(a_t_kept, .inl (y 0, 616, .inl t_kept_w)), (a_t_text, .inl (y 1, 60, .inl t_text)), (a_t_told, .inl (y 0, 3, .inl t_told_w)), (a_t_now, .inl (y 0, 77, .inl t_now_165)), (a_t_tried, .inl (y 0, 77, .inl t_tried_w))]) ⟨hx, hb, hml, hown, hts⟩ (c_X8_raises l D y fl H.size a_t a_t_now a_t_tried a_t_kept a_t_saved a_t_line a_t_text a_t_told a_t_way t_undos_w t_isSaved t_lined (0 : Int32) t_at_w t_order_w t_fault_w t_reason_w t_detail_w x2 t_answer_w t_thrown_w t_went t_fell (2 : Int32) r_170 t_thrown_170 hq_170) (cwV 1 hts gX8_commands_X8_raises rfl rfl rfl (by decide +kernel) ⟨Nat.le_of_ble_eq_true rfl, Nat.le_of_ble_eq_true rfl⟩) hK hP hD hS hA [3] [0, 1, 2, 4, 5] rfl rfl rfl rfl (by decide) rfl rfl rfl hl.1 rfl (Nat.le_of_ble_eq_true rfl) dX8_commands_170 ⟨Nat.le_of_ble_eq_true rfl, Nat.le_of_ble_eq_true rfl⟩ (fun H locs hP hD hS => ?_)
          have hP : va_P D vwCl [(a_t_kept, .inl (y 0, 616, .inl t_kept_w)), (a_t_text, .inl (y 1, 60, .inl t_text)), (a_t_told, .inl (y 0, 3, .inl t_told_w)), (a_t_now, .inl (y 0, 77, .inl t_now_165)), (a_t_tried, .inl (y 0, 77, .inl t_tried_w)), (a_t, .inr (12, [.ref a_t_now, .ref a_t_tried, .ref a_t_kept, .int t_undos_w, .ref a_t_saved, .int t_isSaved, .ref a_t_line, .int t_lined, .ref a_t_text, .int (0 : Int32), .int t_at_w, .int t_order_w, .ref a_t_told, .int t_fault_w, .int t_reason_w, .int t_detail_w, .int x2, .int t_answer_w, .int t_thrown_170, .ref a_t_way, .int t_went, .int t_fell]))] H := hP
          have hD : va_D A [(a_t_kept, .inl (y 0, 616, .inl t_kept_w)), (a_t_text, .inl (y 1, 60, .inl t_text)), (a_t_told, .inl (y 0, 3, .inl t_told_w)), (a_t_now, .inl (y 0, 77, .inl t_now_165)), (a_t_tried, .inl (y 0, 77, .inl t_tried_w)), (a_t, .inr (12, [.ref a_t_now, .ref a_t_tried, .ref a_t_kept, .int t_undos_w, .ref a_t_saved, .int t_isSaved, .ref a_t_line, .int t_lined, .ref a_t_text, .int (0 : Int32), .int t_at_w, .int t_order_w, .ref a_t_told, .int t_fault_w, .int t_reason_w, .int t_detail_w, .int x2, .int t_answer_w, .int t_thrown_170, .ref a_t_way, .int t_went, .int t_fell]))] := hD
          obtain ⟨e0_173, e1_173, e2_173, e3_173, e4_173, e5_173, e6_173, e7_173, e8_173, e9_173, e10_173, e11_173, e12_173, e13_173, e14_173⟩ := inj15 hF
          rw [← e0_173, ← e1_173, ← e2_173, ← e3_173, ← e4_173, ← e5_173, ← e6_173, ← e7_173, ← e8_173, ← e9_173, ← e10_173, ← e11_173, ← e12_173, ← e13_173, ← e14_173] at hQ0
          rw [hQ0]
          exact ret_i hx hb hr hlocks hAe hK hP hD hS [5, 3, 4, 0, 1, 2] rfl rfl dX8_commands_173
        · have hF := iff_ hF c_150
          refine lv_aload_n hx hb dX8_commands_153 rfl (lv_at hl 0 rfl) ?_
          refine lv_iload_n hx hb dX8_commands_154 rfl (lv_at hl 2 rfl) ?_
          obtain ⟨r_155, t_undos_155, t_kept_155, hq_155, hF⟩ := bn3_i hF
          refine cm_Vi (As := [.int x2]) (rest := []) (wr := [(a_t_now, .inl (y 0, 77, .inl t_now_w)), (a_t_text, .inl (y 1, 60, .inl t_text)), (a_t_told, .inl (y 0, 3, .inl t_told_w))]) ⟨hx, hb, hml, hown, hts⟩ (c_X8_keeps l D y fl H.size a_t a_t_now a_t_tried a_t_kept a_t_saved a_t_line a_t_text a_t_told a_t_way t_undos_w t_isSaved t_lined (0 : Int32) t_at_w t_order_w t_fault_w t_reason_w t_detail_w t_index_w t_answer_w t_thrown_w t_went t_fell t_tried_w t_kept_w x2 r_155 t_undos_155 t_kept_155 hq_155) (cwV 1 hts gX8_commands_X8_keeps rfl rfl rfl (by decide +kernel) ⟨Nat.le_of_ble_eq_true rfl, Nat.le_of_ble_eq_true rfl⟩) hK hP hD hS hA [0, 2, 3] [1, 4, 5] rfl rfl rfl rfl (by decide) rfl rfl rfl hl.1 rfl (Nat.le_of_ble_eq_true rfl) dX8_commands_155 ⟨Nat.le_of_ble_eq_true rfl, Nat.le_of_ble_eq_true rfl⟩ (fun H locs hP hD hS => ?_)
          have hP : va_P D vwCl [(a_t_now, .inl (y 0, 77, .inl t_now_w)), (a_t_text, .inl (y 1, 60, .inl t_text)), (a_t_told, .inl (y 0, 3, .inl t_told_w)), (a_t, .inr (12, [.ref a_t_now, .ref a_t_tried, .ref a_t_kept, .int t_undos_155, .ref a_t_saved, .int t_isSaved, .ref a_t_line, .int t_lined, .ref a_t_text, .int (0 : Int32), .int t_at_w, .int t_order_w, .ref a_t_told, .int t_fault_w, .int t_reason_w, .int t_detail_w, .int t_index_w, .int t_answer_w, .int t_thrown_w, .ref a_t_way, .int t_went, .int t_fell])), (a_t_tried, .inl (y 0, 77, .inl t_tried_w)), (a_t_kept, .inl (y 0, 616, .inl t_kept_155))] H := hP
          have hD : va_D A [(a_t_now, .inl (y 0, 77, .inl t_now_w)), (a_t_text, .inl (y 1, 60, .inl t_text)), (a_t_told, .inl (y 0, 3, .inl t_told_w)), (a_t, .inr (12, [.ref a_t_now, .ref a_t_tried, .ref a_t_kept, .int t_undos_155, .ref a_t_saved, .int t_isSaved, .ref a_t_line, .int t_lined, .ref a_t_text, .int (0 : Int32), .int t_at_w, .int t_order_w, .ref a_t_told, .int t_fault_w, .int t_reason_w, .int t_detail_w, .int t_index_w, .int t_answer_w, .int t_thrown_w, .ref a_t_way, .int t_went, .int t_fell])), (a_t_tried, .inl (y 0, 77, .inl t_tried_w)), (a_t_kept, .inl (y 0, 616, .inl t_kept_155))] := hD
          obtain ⟨e0_158, e1_158, e2_158, e3_158, e4_158, e5_158, e6_158, e7_158, e8_158, e9_158, e10_158, e11_158, e12_158, e13_158, e14_158⟩ := inj15 hF
          rw [← e0_158, ← e1_158, ← e2_158, ← e3_158, ← e4_158, ← e5_158, ← e6_158, ← e7_158, ← e8_158, ← e9_158, ← e10_158, ← e11_158, ← e12_158, ← e13_158, ← e14_158] at hQ0
          rw [hQ0]
          exact ret_i hx hb hr hlocks hAe hK hP hD hS [3, 0, 4, 5, 1, 2] rfl rfl dX8_commands_158
      · have hF := iff_ hF c_92
        refine lv_aload_n hx hb dX8_commands_95 rfl (lv_at hl 0 rfl) ?_
        obtain ⟨r_96, t_at_96, t_order_96, t_told_96, hq_96, hF⟩ := bn4_i hF
        refine cm_Vi (As := []) (rest := []) (wr := [(a_t_now, .inl (y 0, 77, .inl t_now_w)), (a_t_tried, .inl (y 0, 77, .inl t_tried_w)), (a_t_kept, .inl (y 0, 616, .inl t_kept_w))]) ⟨hx, hb, hml, hown, hts⟩ (c_X8_isCommand l D y fl H.size a_t a_t_now a_t_tried a_t_kept a_t_saved a_t_line a_t_text a_t_told a_t_way t_undos_w t_isSaved t_lined t_length_w t_at_w t_order_w t_fault_w t_reason_w t_detail_w t_index_w t_answer_w t_thrown_w t_went t_fell t_text t_told_w r_96 t_at_96 t_order_96 t_told_96 hq_96) (cwV 0 hts gX8_commands_X8_isCommand rfl rfl rfl (by decide +kernel) ⟨Nat.le_of_ble_eq_true rfl, Nat.le_of_ble_eq_true rfl⟩) hK hP hD hS hA [0, 4, 5] [1, 2, 3] rfl rfl rfl rfl (by decide) rfl rfl rfl hl.1 rfl (Nat.le_of_ble_eq_true rfl) dX8_commands_96 ⟨Nat.le_of_ble_eq_true rfl, Nat.le_of_ble_eq_true rfl⟩ (fun H locs hP hD hS => ?_)
        have hP : va_P D vwCl [(a_t_now, .inl (y 0, 77, .inl t_now_w)), (a_t_tried, .inl (y 0, 77, .inl t_tried_w)), (a_t_kept, .inl (y 0, 616, .inl t_kept_w)), (a_t, .inr (12, [.ref a_t_now, .ref a_t_tried, .ref a_t_kept, .int t_undos_w, .ref a_t_saved, .int t_isSaved, .ref a_t_line, .int t_lined, .ref a_t_text, .int t_length_w, .int t_at_96, .int t_order_96, .ref a_t_told, .int t_fault_w, .int t_reason_w, .int t_detail_w, .int t_index_w, .int t_answer_w, .int t_thrown_w, .ref a_t_way, .int t_went, .int t_fell])), (a_t_text, .inl (y 1, 60, .inl t_text)), (a_t_told, .inl (y 0, 3, .inl t_told_96))] H := hP
        have hD : va_D A [(a_t_now, .inl (y 0, 77, .inl t_now_w)), (a_t_tried, .inl (y 0, 77, .inl t_tried_w)), (a_t_kept, .inl (y 0, 616, .inl t_kept_w)), (a_t, .inr (12, [.ref a_t_now, .ref a_t_tried, .ref a_t_kept, .int t_undos_w, .ref a_t_saved, .int t_isSaved, .ref a_t_line, .int t_lined, .ref a_t_text, .int t_length_w, .int t_at_96, .int t_order_96, .ref a_t_told, .int t_fault_w, .int t_reason_w, .int t_detail_w, .int t_index_w, .int t_answer_w, .int t_thrown_w, .ref a_t_way, .int t_went, .int t_fell])), (a_t_text, .inl (y 1, 60, .inl t_text)), (a_t_told, .inl (y 0, 3, .inl t_told_96))] := hD
        refine lv_if_eq (tgt := 113) hx hb dX8_commands_99 (by decide) (fun c_99 => ?_) (fun c_99 => ?_)
        · have hF := ift hF c_99
          refine lv_iconst (v := 0) hx hb dX8_commands_113 (by decide) ?_
          refine lv_istore_n (lv' := [(1, .int (0 : Int32)), (0, .ref a_t), (2, .int x2), (3, .int x3)]) hx hb dX8_commands_114 rfl hl (by decide) rfl (fun ls hl => ?_)
          refine lv_iload_n hx hb dX8_commands_115 rfl (lv_at hl 0 rfl) ?_
          refine lv_if_eq (tgt := 122) hx hb dX8_commands_116 (by decide) (fun c_116 => ?_) (fun c_116 => ?_)
          · have hF := ift hF c_116
            refine lv_iload_n hx hb dX8_commands_122 rfl (lv_at hl 0 rfl) ?_
            refine lv_if_eq (tgt := 139) hx hb dX8_commands_123 (by decide) (fun c_123 => ?_) (fun c_123 => ?_)
            · have hF := ift hF c_123
              refine lv_iconst (v := 0) hx hb dX8_commands_139 (by decide) ?_
              refine lv_istore_n (lv' := [(3, .int (0 : Int32)), (1, .int (0 : Int32)), (0, .ref a_t), (2, .int x2)]) hx hb dX8_commands_140 rfl hl (by decide) rfl (fun ls hl => ?_)
              refine lv_goto (tgt := 91) hx hb dX8_commands_141 (by decide) ?_
              exact ih t_undos_w t_length_w t_at_96 t_order_96 t_fault_w t_reason_w t_detail_w t_index_w t_answer_w t_thrown_w t_now_w t_tried_w t_kept_w t_told_96 (0 : Int32) x2 (0 : Int32) hF _ _ (hP.sub [3, 0, 1, 2, 4, 5] rfl) (hD.sub [3, 0, 1, 2, 4, 5] (by decide) rfl) hS ls (lv_sub hl [2, 1, 3, 0] rfl)
            · have hF := iff_ hF c_123
              refine lv_aload_n hx hb dX8_commands_126 rfl (lv_at hl 1 rfl) ?_
              refine lv_bipush (v := 59) hx hb dX8_commands_127 (by decide) ?_
              obtain ⟨r_129, t_at_129, hq_129, hF⟩ := bn2_i hF
              refine cm_Vi (As := [.int (59 : Int32)]) (rest := []) (wr := [(a_t_now, .inl (y 0, 77, .inl t_now_w)), (a_t_tried, .inl (y 0, 77, .inl t_tried_w)), (a_t_kept, .inl (y 0, 616, .inl t_kept_w)), (a_t_told, .inl (y 0, 3, .inl t_told_96))]) ⟨hx, hb, hml, hown, hts⟩ (c_X8_sign l D y fl H.size a_t a_t_now a_t_tried a_t_kept a_t_saved a_t_line a_t_text a_t_told a_t_way t_undos_w t_isSaved t_lined t_length_w t_at_96 t_order_96 t_fault_w t_reason_w t_detail_w t_index_w t_answer_w t_thrown_w t_went t_fell t_text (59 : Int32) r_129 t_at_129 hq_129) (cwV 1 hts gX8_commands_X8_sign rfl rfl rfl (by decide +kernel) ⟨Nat.le_of_ble_eq_true rfl, Nat.le_of_ble_eq_true rfl⟩) hK hP hD hS hA [3, 4] [0, 1, 2, 5] rfl rfl rfl rfl (by decide) rfl rfl rfl hl.1 rfl (Nat.le_of_ble_eq_true rfl) dX8_commands_129 ⟨Nat.le_of_ble_eq_true rfl, Nat.le_of_ble_eq_true rfl⟩ (fun H locs hP hD hS => ?_)
              have hP : va_P D vwCl [(a_t_now, .inl (y 0, 77, .inl t_now_w)), (a_t_tried, .inl (y 0, 77, .inl t_tried_w)), (a_t_kept, .inl (y 0, 616, .inl t_kept_w)), (a_t_told, .inl (y 0, 3, .inl t_told_96)), (a_t, .inr (12, [.ref a_t_now, .ref a_t_tried, .ref a_t_kept, .int t_undos_w, .ref a_t_saved, .int t_isSaved, .ref a_t_line, .int t_lined, .ref a_t_text, .int t_length_w, .int t_at_129, .int t_order_96, .ref a_t_told, .int t_fault_w, .int t_reason_w, .int t_detail_w, .int t_index_w, .int t_answer_w, .int t_thrown_w, .ref a_t_way, .int t_went, .int t_fell])), (a_t_text, .inl (y 1, 60, .inl t_text))] H := hP
              have hD : va_D A [(a_t_now, .inl (y 0, 77, .inl t_now_w)), (a_t_tried, .inl (y 0, 77, .inl t_tried_w)), (a_t_kept, .inl (y 0, 616, .inl t_kept_w)), (a_t_told, .inl (y 0, 3, .inl t_told_96)), (a_t, .inr (12, [.ref a_t_now, .ref a_t_tried, .ref a_t_kept, .int t_undos_w, .ref a_t_saved, .int t_isSaved, .ref a_t_line, .int t_lined, .ref a_t_text, .int t_length_w, .int t_at_129, .int t_order_96, .ref a_t_told, .int t_fault_w, .int t_reason_w, .int t_detail_w, .int t_index_w, .int t_answer_w, .int t_thrown_w, .ref a_t_way, .int t_went, .int t_fell])), (a_t_text, .inl (y 1, 60, .inl t_text))] := hD
              refine lv_if_eq (tgt := 139) hx hb dX8_commands_132 (by decide) (fun c_132 => ?_) (fun c_132 => ?_)
              · have hF := ift hF c_132
                refine lv_iconst (v := 0) hx hb dX8_commands_139 (by decide) ?_
                refine lv_istore_n (lv' := [(3, .int (0 : Int32)), (1, .int (0 : Int32)), (0, .ref a_t), (2, .int x2)]) hx hb dX8_commands_140 rfl hl (by decide) rfl (fun ls hl => ?_)
                refine lv_goto (tgt := 91) hx hb dX8_commands_141 (by decide) ?_
                exact ih t_undos_w t_length_w t_at_129 t_order_96 t_fault_w t_reason_w t_detail_w t_index_w t_answer_w t_thrown_w t_now_w t_tried_w t_kept_w t_told_96 (0 : Int32) x2 (0 : Int32) hF _ _ (hP.sub [4, 0, 1, 2, 5, 3] rfl) (hD.sub [4, 0, 1, 2, 5, 3] (by decide) rfl) hS ls (lv_sub hl [2, 1, 3, 0] rfl)
              · have hF := iff_ hF c_132
                refine lv_iconst (v := 1) hx hb dX8_commands_135 (by decide) ?_
                refine lv_goto (tgt := 140) hx hb dX8_commands_136 (by decide) ?_
                refine lv_istore_n (lv' := [(3, .int (1 : Int32)), (1, .int (0 : Int32)), (0, .ref a_t), (2, .int x2)]) hx hb dX8_commands_140 rfl hl (by decide) rfl (fun ls hl => ?_)
                refine lv_goto (tgt := 91) hx hb dX8_commands_141 (by decide) ?_
                exact ih t_undos_w t_length_w t_at_129 t_order_96 t_fault_w t_reason_w t_detail_w t_index_w t_answer_w t_thrown_w t_now_w t_tried_w t_kept_w t_told_96 (0 : Int32) x2 (1 : Int32) hF _ _ (hP.sub [4, 0, 1, 2, 5, 3] rfl) (hD.sub [4, 0, 1, 2, 5, 3] (by decide) rfl) hS ls (lv_sub hl [2, 1, 3, 0] rfl)
          · have hF := iff_ hF c_116
            refine lv_iinc (v := x2 + (1 : Int32)) (lv' := [(2, .int (x2 + (1 : Int32))), (1, .int (0 : Int32)), (0, .ref a_t), (3, .int x3)]) hx hb dX8_commands_119 hl (k := 2) rfl rfl (by decide) rfl (fun ls hl => ?_)
            refine lv_iload_n hx hb dX8_commands_122 rfl (lv_at hl 1 rfl) ?_
            refine lv_if_eq (tgt := 139) hx hb dX8_commands_123 (by decide) (fun c_123b => ?_) (fun c_123b => ?_)
            · have hF := ift hF c_123b
              refine lv_iconst (v := 0) hx hb dX8_commands_139 (by decide) ?_
              refine lv_istore_n (lv' := [(3, .int (0 : Int32)), (2, .int (x2 + (1 : Int32))), (1, .int (0 : Int32)), (0, .ref a_t)]) hx hb dX8_commands_140 rfl hl (by decide) rfl (fun ls hl => ?_)
              refine lv_goto (tgt := 91) hx hb dX8_commands_141 (by decide) ?_
              exact ih t_undos_w t_length_w t_at_96 t_order_96 t_fault_w t_reason_w t_detail_w t_index_w t_answer_w t_thrown_w t_now_w t_tried_w t_kept_w t_told_96 (0 : Int32) (x2 + (1 : Int32)) (0 : Int32) hF _ _ (hP.sub [3, 0, 1, 2, 4, 5] rfl) (hD.sub [3, 0, 1, 2, 4, 5] (by decide) rfl) hS ls (lv_sub hl [3, 2, 1, 0] rfl)
            · have hF := iff_ hF c_123b
              refine lv_aload_n hx hb dX8_commands_126 rfl (lv_at hl 2 rfl) ?_
              refine lv_bipush (v := 59) hx hb dX8_commands_127 (by decide) ?_
              obtain ⟨r_129b, t_at_129b, hq_129b, hF⟩ := bn2_i hF
              refine cm_Vi (As := [.int (59 : Int32)]) (rest := []) (wr := [(a_t_now, .inl (y 0, 77, .inl t_now_w)), (a_t_tried, .inl (y 0, 77, .inl t_tried_w)), (a_t_kept, .inl (y 0, 616, .inl t_kept_w)), (a_t_told, .inl (y 0, 3, .inl t_told_96))]) ⟨hx, hb, hml, hown, hts⟩ (c_X8_sign l D y fl H.size a_t a_t_now a_t_tried a_t_kept a_t_saved a_t_line a_t_text a_t_told a_t_way t_undos_w t_isSaved t_lined t_length_w t_at_96 t_order_96 t_fault_w t_reason_w t_detail_w t_index_w t_answer_w t_thrown_w t_went t_fell t_text (59 : Int32) r_129b t_at_129b hq_129b) (cwV 1 hts gX8_commands_X8_sign rfl rfl rfl (by decide +kernel) ⟨Nat.le_of_ble_eq_true rfl, Nat.le_of_ble_eq_true rfl⟩) hK hP hD hS hA [3, 4] [0, 1, 2, 5] rfl rfl rfl rfl (by decide) rfl rfl rfl hl.1 rfl (Nat.le_of_ble_eq_true rfl) dX8_commands_129 ⟨Nat.le_of_ble_eq_true rfl, Nat.le_of_ble_eq_true rfl⟩ (fun H locs hP hD hS => ?_)
              have hP : va_P D vwCl [(a_t_now, .inl (y 0, 77, .inl t_now_w)), (a_t_tried, .inl (y 0, 77, .inl t_tried_w)), (a_t_kept, .inl (y 0, 616, .inl t_kept_w)), (a_t_told, .inl (y 0, 3, .inl t_told_96)), (a_t, .inr (12, [.ref a_t_now, .ref a_t_tried, .ref a_t_kept, .int t_undos_w, .ref a_t_saved, .int t_isSaved, .ref a_t_line, .int t_lined, .ref a_t_text, .int t_length_w, .int t_at_129b, .int t_order_96, .ref a_t_told, .int t_fault_w, .int t_reason_w, .int t_detail_w, .int t_index_w, .int t_answer_w, .int t_thrown_w, .ref a_t_way, .int t_went, .int t_fell])), (a_t_text, .inl (y 1, 60, .inl t_text))] H := hP
              have hD : va_D A [(a_t_now, .inl (y 0, 77, .inl t_now_w)), (a_t_tried, .inl (y 0, 77, .inl t_tried_w)), (a_t_kept, .inl (y 0, 616, .inl t_kept_w)), (a_t_told, .inl (y 0, 3, .inl t_told_96)), (a_t, .inr (12, [.ref a_t_now, .ref a_t_tried, .ref a_t_kept, .int t_undos_w, .ref a_t_saved, .int t_isSaved, .ref a_t_line, .int t_lined, .ref a_t_text, .int t_length_w, .int t_at_129b, .int t_order_96, .ref a_t_told, .int t_fault_w, .int t_reason_w, .int t_detail_w, .int t_index_w, .int t_answer_w, .int t_thrown_w, .ref a_t_way, .int t_went, .int t_fell])), (a_t_text, .inl (y 1, 60, .inl t_text))] := hD
              refine lv_if_eq (tgt := 139) hx hb dX8_commands_132 (by decide) (fun c_132b => ?_) (fun c_132b => ?_)
              · have hF := ift hF c_132b
                refine lv_iconst (v := 0) hx hb dX8_commands_139 (by decide) ?_
                refine lv_istore_n (lv' := [(3, .int (0 : Int32)), (2, .int (x2 + (1 : Int32))), (1, .int (0 : Int32)), (0, .ref a_t)]) hx hb dX8_commands_140 rfl hl (by decide) rfl (fun ls hl => ?_)
                refine lv_goto (tgt := 91) hx hb dX8_commands_141 (by decide) ?_
                exact ih t_undos_w t_length_w t_at_129b t_order_96 t_fault_w t_reason_w t_detail_w t_index_w t_answer_w t_thrown_w t_now_w t_tried_w t_kept_w t_told_96 (0 : Int32) (x2 + (1 : Int32)) (0 : Int32) hF _ _ (hP.sub [4, 0, 1, 2, 5, 3] rfl) (hD.sub [4, 0, 1, 2, 5, 3] (by decide) rfl) hS ls (lv_sub hl [3, 2, 1, 0] rfl)
              · have hF := iff_ hF c_132b
                refine lv_iconst (v := 1) hx hb dX8_commands_135 (by decide) ?_
                refine lv_goto (tgt := 140) hx hb dX8_commands_136 (by decide) ?_
                refine lv_istore_n (lv' := [(3, .int (1 : Int32)), (2, .int (x2 + (1 : Int32))), (1, .int (0 : Int32)), (0, .ref a_t)]) hx hb dX8_commands_140 rfl hl (by decide) rfl (fun ls hl => ?_)
                refine lv_goto (tgt := 91) hx hb dX8_commands_141 (by decide) ?_
                exact ih t_undos_w t_length_w t_at_129b t_order_96 t_fault_w t_reason_w t_detail_w t_index_w t_answer_w t_thrown_w t_now_w t_tried_w t_kept_w t_told_96 (0 : Int32) (x2 + (1 : Int32)) (1 : Int32) hF _ _ (hP.sub [4, 0, 1, 2, 5, 3] rfl) (hD.sub [4, 0, 1, 2, 5, 3] (by decide) rfl) hS ls (lv_sub hl [3, 2, 1, 0] rfl)
        · have hF := iff_ hF c_99
          refine lv_aload_n hx hb dX8_commands_102 rfl (lv_at hl 0 rfl) ?_
          obtain ⟨r_103, t_reason_103, t_detail_103, t_index_103, t_answer_103, t_now_103, hq_103, hF⟩ := bn6_i hF
          refine cm_Vi (As := []) (rest := []) (wr := [(a_t_tried, .inl (y 0, 77, .inl t_tried_w)), (a_t_kept, .inl (y 0, 616, .inl t_kept_w)), (a_t_text, .inl (y 1, 60, .inl t_text))]) ⟨hx, hb, hml, hown, hts⟩ (c_X8_carries l D y fl H.size a_t a_t_now a_t_tried a_t_kept a_t_saved a_t_line a_t_text a_t_told a_t_way t_undos_w t_isSaved t_lined t_length_w t_at_96 t_order_96 t_fault_w t_reason_w t_detail_w t_index_w t_answer_w t_thrown_w t_went t_fell t_now_w t_told_96 r_103 t_reason_103 t_detail_103 t_index_103 t_answer_103 t_now_103 hq_103) (cwV 0 hts gX8_commands_X8_carries rfl rfl rfl (by decide +kernel) ⟨Nat.le_of_ble_eq_true rfl, Nat.le_of_ble_eq_true rfl⟩) hK hP hD hS hA [3, 0, 5] [1, 2, 4] rfl rfl rfl rfl (by decide) rfl rfl rfl hl.1 rfl (Nat.le_of_ble_eq_true rfl) dX8_commands_103 ⟨Nat.le_of_ble_eq_true rfl, Nat.le_of_ble_eq_true rfl⟩ (fun H locs hP hD hS => ?_)
          have hP : va_P D vwCl [(a_t_tried, .inl (y 0, 77, .inl t_tried_w)), (a_t_kept, .inl (y 0, 616, .inl t_kept_w)), (a_t_text, .inl (y 1, 60, .inl t_text)), (a_t, .inr (12, [.ref a_t_now, .ref a_t_tried, .ref a_t_kept, .int t_undos_w, .ref a_t_saved, .int t_isSaved, .ref a_t_line, .int t_lined, .ref a_t_text, .int t_length_w, .int t_at_96, .int t_order_96, .ref a_t_told, .int t_fault_w, .int t_reason_103, .int t_detail_103, .int t_index_103, .int t_answer_103, .int t_thrown_w, .ref a_t_way, .int t_went, .int t_fell])), (a_t_now, .inl (y 0, 77, .inl t_now_103)), (a_t_told, .inl (y 0, 3, .inl t_told_96))] H := hP
          have hD : va_D A [(a_t_tried, .inl (y 0, 77, .inl t_tried_w)), (a_t_kept, .inl (y 0, 616, .inl t_kept_w)), (a_t_text, .inl (y 1, 60, .inl t_text)), (a_t, .inr (12, [.ref a_t_now, .ref a_t_tried, .ref a_t_kept, .int t_undos_w, .ref a_t_saved, .int t_isSaved, .ref a_t_line, .int t_lined, .ref a_t_text, .int t_length_w, .int t_at_96, .int t_order_96, .ref a_t_told, .int t_fault_w, .int t_reason_103, .int t_detail_103, .int t_index_103, .int t_answer_103, .int t_thrown_w, .ref a_t_way, .int t_went, .int t_fell])), (a_t_now, .inl (y 0, 77, .inl t_now_103)), (a_t_told, .inl (y 0, 3, .inl t_told_96))] := hD
          refine lv_if_eq (tgt := 113) hx hb dX8_commands_106 (by decide) (fun c_106 => ?_) (fun c_106 => ?_)
          · have hF := ift hF c_106
            refine lv_iconst (v := 0) hx hb dX8_commands_113 (by decide) ?_
            refine lv_istore_n (lv' := [(1, .int (0 : Int32)), (0, .ref a_t), (2, .int x2), (3, .int x3)]) hx hb dX8_commands_114 rfl hl (by decide) rfl (fun ls hl => ?_)
            refine lv_iload_n hx hb dX8_commands_115 rfl (lv_at hl 0 rfl) ?_
            refine lv_if_eq (tgt := 122) hx hb dX8_commands_116 (by decide) (fun c_116b => ?_) (fun c_116b => ?_)
            · have hF := ift hF c_116b
              refine lv_iload_n hx hb dX8_commands_122 rfl (lv_at hl 0 rfl) ?_
              refine lv_if_eq (tgt := 139) hx hb dX8_commands_123 (by decide) (fun c_123bb => ?_) (fun c_123bb => ?_)
              · have hF := ift hF c_123bb
                refine lv_iconst (v := 0) hx hb dX8_commands_139 (by decide) ?_
                refine lv_istore_n (lv' := [(3, .int (0 : Int32)), (1, .int (0 : Int32)), (0, .ref a_t), (2, .int x2)]) hx hb dX8_commands_140 rfl hl (by decide) rfl (fun ls hl => ?_)
                refine lv_goto (tgt := 91) hx hb dX8_commands_141 (by decide) ?_
                exact ih t_undos_w t_length_w t_at_96 t_order_96 t_fault_w t_reason_103 t_detail_103 t_index_103 t_answer_103 t_thrown_w t_now_103 t_tried_w t_kept_w t_told_96 (0 : Int32) x2 (0 : Int32) hF _ _ (hP.sub [3, 4, 0, 1, 2, 5] rfl) (hD.sub [3, 4, 0, 1, 2, 5] (by decide) rfl) hS ls (lv_sub hl [2, 1, 3, 0] rfl)
              · have hF := iff_ hF c_123bb
                refine lv_aload_n hx hb dX8_commands_126 rfl (lv_at hl 1 rfl) ?_
                refine lv_bipush (v := 59) hx hb dX8_commands_127 (by decide) ?_
                obtain ⟨r_129bb, t_at_129bb, hq_129bb, hF⟩ := bn2_i hF
                refine cm_Vi (As := [.int (59 : Int32)]) (rest := []) (wr := [(a_t_tried, .inl (y 0, 77, .inl t_tried_w)), (a_t_kept, .inl (y 0, 616, .inl t_kept_w)), (a_t_now, .inl (y 0, 77, .inl t_now_103)), (a_t_told, .inl (y 0, 3, .inl t_told_96))]) ⟨hx, hb, hml, hown, hts⟩ (c_X8_sign l D y fl H.size a_t a_t_now a_t_tried a_t_kept a_t_saved a_t_line a_t_text a_t_told a_t_way t_undos_w t_isSaved t_lined t_length_w t_at_96 t_order_96 t_fault_w t_reason_103 t_detail_103 t_index_103 t_answer_103 t_thrown_w t_went t_fell t_text (59 : Int32) r_129bb t_at_129bb hq_129bb) (cwV 1 hts gX8_commands_X8_sign rfl rfl rfl (by decide +kernel) ⟨Nat.le_of_ble_eq_true rfl, Nat.le_of_ble_eq_true rfl⟩) hK hP hD hS hA [3, 2] [0, 1, 4, 5] rfl rfl rfl rfl (by decide) rfl rfl rfl hl.1 rfl (Nat.le_of_ble_eq_true rfl) dX8_commands_129 ⟨Nat.le_of_ble_eq_true rfl, Nat.le_of_ble_eq_true rfl⟩ (fun H locs hP hD hS => ?_)
                have hP : va_P D vwCl [(a_t_tried, .inl (y 0, 77, .inl t_tried_w)), (a_t_kept, .inl (y 0, 616, .inl t_kept_w)), (a_t_now, .inl (y 0, 77, .inl t_now_103)), (a_t_told, .inl (y 0, 3, .inl t_told_96)), (a_t, .inr (12, [.ref a_t_now, .ref a_t_tried, .ref a_t_kept, .int t_undos_w, .ref a_t_saved, .int t_isSaved, .ref a_t_line, .int t_lined, .ref a_t_text, .int t_length_w, .int t_at_129bb, .int t_order_96, .ref a_t_told, .int t_fault_w, .int t_reason_103, .int t_detail_103, .int t_index_103, .int t_answer_103, .int t_thrown_w, .ref a_t_way, .int t_went, .int t_fell])), (a_t_text, .inl (y 1, 60, .inl t_text))] H := hP
                have hD : va_D A [(a_t_tried, .inl (y 0, 77, .inl t_tried_w)), (a_t_kept, .inl (y 0, 616, .inl t_kept_w)), (a_t_now, .inl (y 0, 77, .inl t_now_103)), (a_t_told, .inl (y 0, 3, .inl t_told_96)), (a_t, .inr (12, [.ref a_t_now, .ref a_t_tried, .ref a_t_kept, .int t_undos_w, .ref a_t_saved, .int t_isSaved, .ref a_t_line, .int t_lined, .ref a_t_text, .int t_length_w, .int t_at_129bb, .int t_order_96, .ref a_t_told, .int t_fault_w, .int t_reason_103, .int t_detail_103, .int t_index_103, .int t_answer_103, .int t_thrown_w, .ref a_t_way, .int t_went, .int t_fell])), (a_t_text, .inl (y 1, 60, .inl t_text))] := hD
                refine lv_if_eq (tgt := 139) hx hb dX8_commands_132 (by decide) (fun c_132bb => ?_) (fun c_132bb => ?_)
                · have hF := ift hF c_132bb
                  refine lv_iconst (v := 0) hx hb dX8_commands_139 (by decide) ?_
                  refine lv_istore_n (lv' := [(3, .int (0 : Int32)), (1, .int (0 : Int32)), (0, .ref a_t), (2, .int x2)]) hx hb dX8_commands_140 rfl hl (by decide) rfl (fun ls hl => ?_)
                  refine lv_goto (tgt := 91) hx hb dX8_commands_141 (by decide) ?_
                  exact ih t_undos_w t_length_w t_at_129bb t_order_96 t_fault_w t_reason_103 t_detail_103 t_index_103 t_answer_103 t_thrown_w t_now_103 t_tried_w t_kept_w t_told_96 (0 : Int32) x2 (0 : Int32) hF _ _ (hP.sub [4, 2, 0, 1, 5, 3] rfl) (hD.sub [4, 2, 0, 1, 5, 3] (by decide) rfl) hS ls (lv_sub hl [2, 1, 3, 0] rfl)
                · have hF := iff_ hF c_132bb
                  refine lv_iconst (v := 1) hx hb dX8_commands_135 (by decide) ?_
                  refine lv_goto (tgt := 140) hx hb dX8_commands_136 (by decide) ?_
                  refine lv_istore_n (lv' := [(3, .int (1 : Int32)), (1, .int (0 : Int32)), (0, .ref a_t), (2, .int x2)]) hx hb dX8_commands_140 rfl hl (by decide) rfl (fun ls hl => ?_)
                  refine lv_goto (tgt := 91) hx hb dX8_commands_141 (by decide) ?_
                  exact ih t_undos_w t_length_w t_at_129bb t_order_96 t_fault_w t_reason_103 t_detail_103 t_index_103 t_answer_103 t_thrown_w t_now_103 t_tried_w t_kept_w t_told_96 (0 : Int32) x2 (1 : Int32) hF _ _ (hP.sub [4, 2, 0, 1, 5, 3] rfl) (hD.sub [4, 2, 0, 1, 5, 3] (by decide) rfl) hS ls (lv_sub hl [2, 1, 3, 0] rfl)
            · have hF := iff_ hF c_116b
              refine lv_iinc (v := x2 + (1 : Int32)) (lv' := [(2, .int (x2 + (1 : Int32))), (1, .int (0 : Int32)), (0, .ref a_t), (3, .int x3)]) hx hb dX8_commands_119 hl (k := 2) rfl rfl (by decide) rfl (fun ls hl => ?_)
              refine lv_iload_n hx hb dX8_commands_122 rfl (lv_at hl 1 rfl) ?_
              refine lv_if_eq (tgt := 139) hx hb dX8_commands_123 (by decide) (fun c_123bbb => ?_) (fun c_123bbb => ?_)
              · have hF := ift hF c_123bbb
                refine lv_iconst (v := 0) hx hb dX8_commands_139 (by decide) ?_
                refine lv_istore_n (lv' := [(3, .int (0 : Int32)), (2, .int (x2 + (1 : Int32))), (1, .int (0 : Int32)), (0, .ref a_t)]) hx hb dX8_commands_140 rfl hl (by decide) rfl (fun ls hl => ?_)
                refine lv_goto (tgt := 91) hx hb dX8_commands_141 (by decide) ?_
                exact ih t_undos_w t_length_w t_at_96 t_order_96 t_fault_w t_reason_103 t_detail_103 t_index_103 t_answer_103 t_thrown_w t_now_103 t_tried_w t_kept_w t_told_96 (0 : Int32) (x2 + (1 : Int32)) (0 : Int32) hF _ _ (hP.sub [3, 4, 0, 1, 2, 5] rfl) (hD.sub [3, 4, 0, 1, 2, 5] (by decide) rfl) hS ls (lv_sub hl [3, 2, 1, 0] rfl)
              · have hF := iff_ hF c_123bbb
                refine lv_aload_n hx hb dX8_commands_126 rfl (lv_at hl 2 rfl) ?_
                refine lv_bipush (v := 59) hx hb dX8_commands_127 (by decide) ?_
                obtain ⟨r_129bbb, t_at_129bbb, hq_129bbb, hF⟩ := bn2_i hF
                refine cm_Vi (As := [.int (59 : Int32)]) (rest := []) (wr := [(a_t_tried, .inl (y 0, 77, .inl t_tried_w)), (a_t_kept, .inl (y 0, 616, .inl t_kept_w)), (a_t_now, .inl (y 0, 77, .inl t_now_103)), (a_t_told, .inl (y 0, 3, .inl t_told_96))]) ⟨hx, hb, hml, hown, hts⟩ (c_X8_sign l D y fl H.size a_t a_t_now a_t_tried a_t_kept a_t_saved a_t_line a_t_text a_t_told a_t_way t_undos_w t_isSaved t_lined t_length_w t_at_96 t_order_96 t_fault_w t_reason_103 t_detail_103 t_index_103 t_answer_103 t_thrown_w t_went t_fell t_text (59 : Int32) r_129bbb t_at_129bbb hq_129bbb) (cwV 1 hts gX8_commands_X8_sign rfl rfl rfl (by decide +kernel) ⟨Nat.le_of_ble_eq_true rfl, Nat.le_of_ble_eq_true rfl⟩) hK hP hD hS hA [3, 2] [0, 1, 4, 5] rfl rfl rfl rfl (by decide) rfl rfl rfl hl.1 rfl (Nat.le_of_ble_eq_true rfl) dX8_commands_129 ⟨Nat.le_of_ble_eq_true rfl, Nat.le_of_ble_eq_true rfl⟩ (fun H locs hP hD hS => ?_)
                have hP : va_P D vwCl [(a_t_tried, .inl (y 0, 77, .inl t_tried_w)), (a_t_kept, .inl (y 0, 616, .inl t_kept_w)), (a_t_now, .inl (y 0, 77, .inl t_now_103)), (a_t_told, .inl (y 0, 3, .inl t_told_96)), (a_t, .inr (12, [.ref a_t_now, .ref a_t_tried, .ref a_t_kept, .int t_undos_w, .ref a_t_saved, .int t_isSaved, .ref a_t_line, .int t_lined, .ref a_t_text, .int t_length_w, .int t_at_129bbb, .int t_order_96, .ref a_t_told, .int t_fault_w, .int t_reason_103, .int t_detail_103, .int t_index_103, .int t_answer_103, .int t_thrown_w, .ref a_t_way, .int t_went, .int t_fell])), (a_t_text, .inl (y 1, 60, .inl t_text))] H := hP
                have hD : va_D A [(a_t_tried, .inl (y 0, 77, .inl t_tried_w)), (a_t_kept, .inl (y 0, 616, .inl t_kept_w)), (a_t_now, .inl (y 0, 77, .inl t_now_103)), (a_t_told, .inl (y 0, 3, .inl t_told_96)), (a_t, .inr (12, [.ref a_t_now, .ref a_t_tried, .ref a_t_kept, .int t_undos_w, .ref a_t_saved, .int t_isSaved, .ref a_t_line, .int t_lined, .ref a_t_text, .int t_length_w, .int t_at_129bbb, .int t_order_96, .ref a_t_told, .int t_fault_w, .int t_reason_103, .int t_detail_103, .int t_index_103, .int t_answer_103, .int t_thrown_w, .ref a_t_way, .int t_went, .int t_fell])), (a_t_text, .inl (y 1, 60, .inl t_text))] := hD
                refine lv_if_eq (tgt := 139) hx hb dX8_commands_132 (by decide) (fun c_132bbb => ?_) (fun c_132bbb => ?_)
                · have hF := ift hF c_132bbb
                  refine lv_iconst (v := 0) hx hb dX8_commands_139 (by decide) ?_
                  refine lv_istore_n (lv' := [(3, .int (0 : Int32)), (2, .int (x2 + (1 : Int32))), (1, .int (0 : Int32)), (0, .ref a_t)]) hx hb dX8_commands_140 rfl hl (by decide) rfl (fun ls hl => ?_)
                  refine lv_goto (tgt := 91) hx hb dX8_commands_141 (by decide) ?_
                  exact ih t_undos_w t_length_w t_at_129bbb t_order_96 t_fault_w t_reason_103 t_detail_103 t_index_103 t_answer_103 t_thrown_w t_now_103 t_tried_w t_kept_w t_told_96 (0 : Int32) (x2 + (1 : Int32)) (0 : Int32) hF _ _ (hP.sub [4, 2, 0, 1, 5, 3] rfl) (hD.sub [4, 2, 0, 1, 5, 3] (by decide) rfl) hS ls (lv_sub hl [3, 2, 1, 0] rfl)
                · have hF := iff_ hF c_132bbb
                  refine lv_iconst (v := 1) hx hb dX8_commands_135 (by decide) ?_
                  refine lv_goto (tgt := 140) hx hb dX8_commands_136 (by decide) ?_
                  refine lv_istore_n (lv' := [(3, .int (1 : Int32)), (2, .int (x2 + (1 : Int32))), (1, .int (0 : Int32)), (0, .ref a_t)]) hx hb dX8_commands_140 rfl hl (by decide) rfl (fun ls hl => ?_)
                  refine lv_goto (tgt := 91) hx hb dX8_commands_141 (by decide) ?_
                  exact ih t_undos_w t_length_w t_at_129bbb t_order_96 t_fault_w t_reason_103 t_detail_103 t_index_103 t_answer_103 t_thrown_w t_now_103 t_tried_w t_kept_w t_told_96 (0 : Int32) (x2 + (1 : Int32)) (1 : Int32) hF _ _ (hP.sub [4, 2, 0, 1, 5, 3] rfl) (hD.sub [4, 2, 0, 1, 5, 3] (by decide) rfl) hS ls (lv_sub hl [3, 2, 1, 0] rfl)
          · have hF := iff_ hF c_106
            refine lv_iconst (v := 1) hx hb dX8_commands_109 (by decide) ?_
            refine lv_goto (tgt := 114) hx hb dX8_commands_110 (by decide) ?_
            refine lv_istore_n (lv' := [(1, .int (1 : Int32)), (0, .ref a_t), (2, .int x2), (3, .int x3)]) hx hb dX8_commands_114 rfl hl (by decide) rfl (fun ls hl => ?_)
            refine lv_iload_n hx hb dX8_commands_115 rfl (lv_at hl 0 rfl) ?_
            refine lv_if_eq (tgt := 122) hx hb dX8_commands_116 (by decide) (fun c_116bb => ?_) (fun c_116bb => ?_)
            · have hF := ift hF c_116bb
              refine lv_iload_n hx hb dX8_commands_122 rfl (lv_at hl 0 rfl) ?_
              refine lv_if_eq (tgt := 139) hx hb dX8_commands_123 (by decide) (fun c_123bbbb => ?_) (fun c_123bbbb => ?_)
              · have hF := ift hF c_123bbbb
                refine lv_iconst (v := 0) hx hb dX8_commands_139 (by decide) ?_
                refine lv_istore_n (lv' := [(3, .int (0 : Int32)), (1, .int (1 : Int32)), (0, .ref a_t), (2, .int x2)]) hx hb dX8_commands_140 rfl hl (by decide) rfl (fun ls hl => ?_)
                refine lv_goto (tgt := 91) hx hb dX8_commands_141 (by decide) ?_
                exact ih t_undos_w t_length_w t_at_96 t_order_96 t_fault_w t_reason_103 t_detail_103 t_index_103 t_answer_103 t_thrown_w t_now_103 t_tried_w t_kept_w t_told_96 (1 : Int32) x2 (0 : Int32) hF _ _ (hP.sub [3, 4, 0, 1, 2, 5] rfl) (hD.sub [3, 4, 0, 1, 2, 5] (by decide) rfl) hS ls (lv_sub hl [2, 1, 3, 0] rfl)
              · have hF := iff_ hF c_123bbbb
                refine lv_aload_n hx hb dX8_commands_126 rfl (lv_at hl 1 rfl) ?_
                refine lv_bipush (v := 59) hx hb dX8_commands_127 (by decide) ?_
                obtain ⟨r_129bbbb, t_at_129bbbb, hq_129bbbb, hF⟩ := bn2_i hF
                refine cm_Vi (As := [.int (59 : Int32)]) (rest := []) (wr := [(a_t_tried, .inl (y 0, 77, .inl t_tried_w)), (a_t_kept, .inl (y 0, 616, .inl t_kept_w)), (a_t_now, .inl (y 0, 77, .inl t_now_103)), (a_t_told, .inl (y 0, 3, .inl t_told_96))]) ⟨hx, hb, hml, hown, hts⟩ (c_X8_sign l D y fl H.size a_t a_t_now a_t_tried a_t_kept a_t_saved a_t_line a_t_text a_t_told a_t_way t_undos_w t_isSaved t_lined t_length_w t_at_96 t_order_96 t_fault_w t_reason_103 t_detail_103 t_index_103 t_answer_103 t_thrown_w t_went t_fell t_text (59 : Int32) r_129bbbb t_at_129bbbb hq_129bbbb) (cwV 1 hts gX8_commands_X8_sign rfl rfl rfl (by decide +kernel) ⟨Nat.le_of_ble_eq_true rfl, Nat.le_of_ble_eq_true rfl⟩) hK hP hD hS hA [3, 2] [0, 1, 4, 5] rfl rfl rfl rfl (by decide) rfl rfl rfl hl.1 rfl (Nat.le_of_ble_eq_true rfl) dX8_commands_129 ⟨Nat.le_of_ble_eq_true rfl, Nat.le_of_ble_eq_true rfl⟩ (fun H locs hP hD hS => ?_)
                have hP : va_P D vwCl [(a_t_tried, .inl (y 0, 77, .inl t_tried_w)), (a_t_kept, .inl (y 0, 616, .inl t_kept_w)), (a_t_now, .inl (y 0, 77, .inl t_now_103)), (a_t_told, .inl (y 0, 3, .inl t_told_96)), (a_t, .inr (12, [.ref a_t_now, .ref a_t_tried, .ref a_t_kept, .int t_undos_w, .ref a_t_saved, .int t_isSaved, .ref a_t_line, .int t_lined, .ref a_t_text, .int t_length_w, .int t_at_129bbbb, .int t_order_96, .ref a_t_told, .int t_fault_w, .int t_reason_103, .int t_detail_103, .int t_index_103, .int t_answer_103, .int t_thrown_w, .ref a_t_way, .int t_went, .int t_fell])), (a_t_text, .inl (y 1, 60, .inl t_text))] H := hP
                have hD : va_D A [(a_t_tried, .inl (y 0, 77, .inl t_tried_w)), (a_t_kept, .inl (y 0, 616, .inl t_kept_w)), (a_t_now, .inl (y 0, 77, .inl t_now_103)), (a_t_told, .inl (y 0, 3, .inl t_told_96)), (a_t, .inr (12, [.ref a_t_now, .ref a_t_tried, .ref a_t_kept, .int t_undos_w, .ref a_t_saved, .int t_isSaved, .ref a_t_line, .int t_lined, .ref a_t_text, .int t_length_w, .int t_at_129bbbb, .int t_order_96, .ref a_t_told, .int t_fault_w, .int t_reason_103, .int t_detail_103, .int t_index_103, .int t_answer_103, .int t_thrown_w, .ref a_t_way, .int t_went, .int t_fell])), (a_t_text, .inl (y 1, 60, .inl t_text))] := hD
                refine lv_if_eq (tgt := 139) hx hb dX8_commands_132 (by decide) (fun c_132bbbb => ?_) (fun c_132bbbb => ?_)
                · have hF := ift hF c_132bbbb
                  refine lv_iconst (v := 0) hx hb dX8_commands_139 (by decide) ?_
                  refine lv_istore_n (lv' := [(3, .int (0 : Int32)), (1, .int (1 : Int32)), (0, .ref a_t), (2, .int x2)]) hx hb dX8_commands_140 rfl hl (by decide) rfl (fun ls hl => ?_)
                  refine lv_goto (tgt := 91) hx hb dX8_commands_141 (by decide) ?_
                  exact ih t_undos_w t_length_w t_at_129bbbb t_order_96 t_fault_w t_reason_103 t_detail_103 t_index_103 t_answer_103 t_thrown_w t_now_103 t_tried_w t_kept_w t_told_96 (1 : Int32) x2 (0 : Int32) hF _ _ (hP.sub [4, 2, 0, 1, 5, 3] rfl) (hD.sub [4, 2, 0, 1, 5, 3] (by decide) rfl) hS ls (lv_sub hl [2, 1, 3, 0] rfl)
                · have hF := iff_ hF c_132bbbb
                  refine lv_iconst (v := 1) hx hb dX8_commands_135 (by decide) ?_
                  refine lv_goto (tgt := 140) hx hb dX8_commands_136 (by decide) ?_
                  refine lv_istore_n (lv' := [(3, .int (1 : Int32)), (1, .int (1 : Int32)), (0, .ref a_t), (2, .int x2)]) hx hb dX8_commands_140 rfl hl (by decide) rfl (fun ls hl => ?_)
                  refine lv_goto (tgt := 91) hx hb dX8_commands_141 (by decide) ?_
                  exact ih t_undos_w t_length_w t_at_129bbbb t_order_96 t_fault_w t_reason_103 t_detail_103 t_index_103 t_answer_103 t_thrown_w t_now_103 t_tried_w t_kept_w t_told_96 (1 : Int32) x2 (1 : Int32) hF _ _ (hP.sub [4, 2, 0, 1, 5, 3] rfl) (hD.sub [4, 2, 0, 1, 5, 3] (by decide) rfl) hS ls (lv_sub hl [2, 1, 3, 0] rfl)
            · have hF := iff_ hF c_116bb
              refine lv_iinc (v := x2 + (1 : Int32)) (lv' := [(2, .int (x2 + (1 : Int32))), (1, .int (1 : Int32)), (0, .ref a_t), (3, .int x3)]) hx hb dX8_commands_119 hl (k := 2) rfl rfl (by decide) rfl (fun ls hl => ?_)
              refine lv_iload_n hx hb dX8_commands_122 rfl (lv_at hl 1 rfl) ?_
              refine lv_if_eq (tgt := 139) hx hb dX8_commands_123 (by decide) (fun c_123bbbbb => ?_) (fun c_123bbbbb => ?_)
              · have hF := ift hF c_123bbbbb
                refine lv_iconst (v := 0) hx hb dX8_commands_139 (by decide) ?_
                refine lv_istore_n (lv' := [(3, .int (0 : Int32)), (2, .int (x2 + (1 : Int32))), (1, .int (1 : Int32)), (0, .ref a_t)]) hx hb dX8_commands_140 rfl hl (by decide) rfl (fun ls hl => ?_)
                refine lv_goto (tgt := 91) hx hb dX8_commands_141 (by decide) ?_
                exact ih t_undos_w t_length_w t_at_96 t_order_96 t_fault_w t_reason_103 t_detail_103 t_index_103 t_answer_103 t_thrown_w t_now_103 t_tried_w t_kept_w t_told_96 (1 : Int32) (x2 + (1 : Int32)) (0 : Int32) hF _ _ (hP.sub [3, 4, 0, 1, 2, 5] rfl) (hD.sub [3, 4, 0, 1, 2, 5] (by decide) rfl) hS ls (lv_sub hl [3, 2, 1, 0] rfl)
              · have hF := iff_ hF c_123bbbbb
                refine lv_aload_n hx hb dX8_commands_126 rfl (lv_at hl 2 rfl) ?_
                refine lv_bipush (v := 59) hx hb dX8_commands_127 (by decide) ?_
                obtain ⟨r_129bbbbb, t_at_129bbbbb, hq_129bbbbb, hF⟩ := bn2_i hF
                refine cm_Vi (As := [.int (59 : Int32)]) (rest := []) (wr := [(a_t_tried, .inl (y 0, 77, .inl t_tried_w)), (a_t_kept, .inl (y 0, 616, .inl t_kept_w)), (a_t_now, .inl (y 0, 77, .inl t_now_103)), (a_t_told, .inl (y 0, 3, .inl t_told_96))]) ⟨hx, hb, hml, hown, hts⟩ (c_X8_sign l D y fl H.size a_t a_t_now a_t_tried a_t_kept a_t_saved a_t_line a_t_text a_t_told a_t_way t_undos_w t_isSaved t_lined t_length_w t_at_96 t_order_96 t_fault_w t_reason_103 t_detail_103 t_index_103 t_answer_103 t_thrown_w t_went t_fell t_text (59 : Int32) r_129bbbbb t_at_129bbbbb hq_129bbbbb) (cwV 1 hts gX8_commands_X8_sign rfl rfl rfl (by decide +kernel) ⟨Nat.le_of_ble_eq_true rfl, Nat.le_of_ble_eq_true rfl⟩) hK hP hD hS hA [3, 2] [0, 1, 4, 5] rfl rfl rfl rfl (by decide) rfl rfl rfl hl.1 rfl (Nat.le_of_ble_eq_true rfl) dX8_commands_129 ⟨Nat.le_of_ble_eq_true rfl, Nat.le_of_ble_eq_true rfl⟩ (fun H locs hP hD hS => ?_)
                have hP : va_P D vwCl [(a_t_tried, .inl (y 0, 77, .inl t_tried_w)), (a_t_kept, .inl (y 0, 616, .inl t_kept_w)), (a_t_now, .inl (y 0, 77, .inl t_now_103)), (a_t_told, .inl (y 0, 3, .inl t_told_96)), (a_t, .inr (12, [.ref a_t_now, .ref a_t_tried, .ref a_t_kept, .int t_undos_w, .ref a_t_saved, .int t_isSaved, .ref a_t_line, .int t_lined, .ref a_t_text, .int t_length_w, .int t_at_129bbbbb, .int t_order_96, .ref a_t_told, .int t_fault_w, .int t_reason_103, .int t_detail_103, .int t_index_103, .int t_answer_103, .int t_thrown_w, .ref a_t_way, .int t_went, .int t_fell])), (a_t_text, .inl (y 1, 60, .inl t_text))] H := hP
                have hD : va_D A [(a_t_tried, .inl (y 0, 77, .inl t_tried_w)), (a_t_kept, .inl (y 0, 616, .inl t_kept_w)), (a_t_now, .inl (y 0, 77, .inl t_now_103)), (a_t_told, .inl (y 0, 3, .inl t_told_96)), (a_t, .inr (12, [.ref a_t_now, .ref a_t_tried, .ref a_t_kept, .int t_undos_w, .ref a_t_saved, .int t_isSaved, .ref a_t_line, .int t_lined, .ref a_t_text, .int t_length_w, .int t_at_129bbbbb, .int t_order_96, .ref a_t_told, .int t_fault_w, .int t_reason_103, .int t_detail_103, .int t_index_103, .int t_answer_103, .int t_thrown_w, .ref a_t_way, .int t_went, .int t_fell])), (a_t_text, .inl (y 1, 60, .inl t_text))] := hD
                refine lv_if_eq (tgt := 139) hx hb dX8_commands_132 (by decide) (fun c_132bbbbb => ?_) (fun c_132bbbbb => ?_)
                · have hF := ift hF c_132bbbbb
                  refine lv_iconst (v := 0) hx hb dX8_commands_139 (by decide) ?_
                  refine lv_istore_n (lv' := [(3, .int (0 : Int32)), (2, .int (x2 + (1 : Int32))), (1, .int (1 : Int32)), (0, .ref a_t)]) hx hb dX8_commands_140 rfl hl (by decide) rfl (fun ls hl => ?_)
                  refine lv_goto (tgt := 91) hx hb dX8_commands_141 (by decide) ?_
                  exact ih t_undos_w t_length_w t_at_129bbbbb t_order_96 t_fault_w t_reason_103 t_detail_103 t_index_103 t_answer_103 t_thrown_w t_now_103 t_tried_w t_kept_w t_told_96 (1 : Int32) (x2 + (1 : Int32)) (0 : Int32) hF _ _ (hP.sub [4, 2, 0, 1, 5, 3] rfl) (hD.sub [4, 2, 0, 1, 5, 3] (by decide) rfl) hS ls (lv_sub hl [3, 2, 1, 0] rfl)
                · have hF := iff_ hF c_132bbbbb
                  refine lv_iconst (v := 1) hx hb dX8_commands_135 (by decide) ?_
                  refine lv_goto (tgt := 140) hx hb dX8_commands_136 (by decide) ?_
                  refine lv_istore_n (lv' := [(3, .int (1 : Int32)), (2, .int (x2 + (1 : Int32))), (1, .int (1 : Int32)), (0, .ref a_t)]) hx hb dX8_commands_140 rfl hl (by decide) rfl (fun ls hl => ?_)
                  refine lv_goto (tgt := 91) hx hb dX8_commands_141 (by decide) ?_
                  exact ih t_undos_w t_length_w t_at_129bbbbb t_order_96 t_fault_w t_reason_103 t_detail_103 t_index_103 t_answer_103 t_thrown_w t_now_103 t_tried_w t_kept_w t_told_96 (1 : Int32) (x2 + (1 : Int32)) (1 : Int32) hF _ _ (hP.sub [4, 2, 0, 1, 5, 3] rfl) (hD.sub [4, 2, 0, 1, 5, 3] (by decide) rfl) hS ls (lv_sub hl [3, 2, 1, 0] rfl)
  have k_19 : ∀ (n : Nat) (t_undos_w : Int32) (t_length_w : Int32) (t_at_w : Int32) (t_order_w : Int32) (t_fault_w : Int32) (t_reason_w : Int32) (t_detail_w : Int32) (t_index_w : Int32) (t_answer_w : Int32) (t_thrown_w : Int32) (t_now_w : Nat → Int32) (t_tried_w : Nat → Int32) (t_kept_w : Nat → Int32) (t_told_w : Nat → Int32) (x1 : Int32), F_X8_commands_19 fl t_text n t_undos_w t_length_w t_at_w t_order_w t_fault_w t_reason_w t_detail_w t_index_w t_answer_w t_thrown_w t_now_w t_tried_w t_kept_w t_told_w x1 = some (r, t_undos', t_length', t_at', t_order', t_fault', t_reason', t_detail', t_index', t_answer', t_thrown', t_now', t_tried', t_kept', t_told') → ∀ (H : Heap) (locs : List Loc), va_P D vwCl [(a_t, .inr (12, [.ref a_t_now, .ref a_t_tried, .ref a_t_kept, .int t_undos_w, .ref a_t_saved, .int t_isSaved, .ref a_t_line, .int t_lined, .ref a_t_text, .int t_length_w, .int t_at_w, .int t_order_w, .ref a_t_told, .int t_fault_w, .int t_reason_w, .int t_detail_w, .int t_index_w, .int t_answer_w, .int t_thrown_w, .ref a_t_way, .int t_went, .int t_fell])), (a_t_now, .inl (y 0, 77, .inl t_now_w)), (a_t_tried, .inl (y 0, 77, .inl t_tried_w)), (a_t_kept, .inl (y 0, 616, .inl t_kept_w)), (a_t_text, .inl (y 1, 60, .inl t_text)), (a_t_told, .inl (y 0, 3, .inl t_told_w))] H → va_D A [(a_t, .inr (12, [.ref a_t_now, .ref a_t_tried, .ref a_t_kept, .int t_undos_w, .ref a_t_saved, .int t_isSaved, .ref a_t_line, .int t_lined, .ref a_t_text, .int t_length_w, .int t_at_w, .int t_order_w, .ref a_t_told, .int t_fault_w, .int t_reason_w, .int t_detail_w, .int t_index_w, .int t_answer_w, .int t_thrown_w, .ref a_t_way, .int t_went, .int t_fell])), (a_t_now, .inl (y 0, 77, .inl t_now_w)), (a_t_tried, .inl (y 0, 77, .inl t_tried_w)), (a_t_kept, .inl (y 0, 616, .inl t_kept_w)), (a_t_text, .inl (y 1, 60, .inl t_text)), (a_t_told, .inl (y 0, 3, .inl t_told_w))] → va_S A s.heap H locs → ∀ (ls : Array Slot), lv_has ls 4 [(0, .ref a_t), (1, .int x1)] → W p l e (rmq 6 131) s m args below meth c H locs 0 0 Q0 (F0 m 19 ls []) := by
    intro n
    induction n with
    | zero => intro t_undos_w t_length_w t_at_w t_order_w t_fault_w t_reason_w t_detail_w t_index_w t_answer_w t_thrown_w t_now_w t_tried_w t_kept_w t_told_w x1 hF; rw [F_X8_commands_19] at hF; cases hF
    | succ n ih =>
      intro t_undos_w t_length_w t_at_w t_order_w t_fault_w t_reason_w t_detail_w t_index_w t_answer_w t_thrown_w t_now_w t_tried_w t_kept_w t_told_w x1 hF H locs hP hD hS ls hl
      rw [F_X8_commands_19] at hF
      refine lv_iload_n hx hb dX8_commands_19 rfl (lv_at hl 1 rfl) ?_
      refine lv_if_eq (tgt := 59) hx hb dX8_commands_20 (by decide) (fun c_20 => ?_) (fun c_20 => ?_)
      · have hF := ift hF c_20
        refine lv_iload_n hx hb dX8_commands_59 rfl (lv_at hl 1 rfl) ?_
        refine lv_if_ne (tgt := 82) hx hb dX8_commands_60 (by decide) (fun c_60 => ?_) (fun c_60 => ?_)
        · have hF := iff_ hF c_60
          refine lv_aload_n hx hb dX8_commands_82 rfl (lv_at hl 0 rfl) ?_
          refine lv_iconst (v := 0) hx hb dX8_commands_83 (by decide) ?_
          refine va_put (D := D) (ci := 12) (v := .int (0 : Int32)) (ty := .int) (C := RX8) (T := TX8) (N := 22) hx hb hts iX8_commands_X8 tyX8 tyX8_ok nmX8 hown hK hP hD hS 0 rfl rfl 10 (by decide) (hts (.fieldLink RX8 170 "SkipArchiveModel" "at" "I") (List.mem_of_getElem? (i := 1) rfl)) (fun _ h9 => h9) rfl (by decide +kernel) rfl rfl (Nat.le_of_ble_eq_true rfl) dX8_commands_84 (fun H locs hP hD hS => ?_)
          have hP : va_P D vwCl [(a_t, .inr (12, [.ref a_t_now, .ref a_t_tried, .ref a_t_kept, .int t_undos_w, .ref a_t_saved, .int t_isSaved, .ref a_t_line, .int t_lined, .ref a_t_text, .int t_length_w, .int (0 : Int32), .int t_order_w, .ref a_t_told, .int t_fault_w, .int t_reason_w, .int t_detail_w, .int t_index_w, .int t_answer_w, .int t_thrown_w, .ref a_t_way, .int t_went, .int t_fell])), (a_t_now, .inl (y 0, 77, .inl t_now_w)), (a_t_tried, .inl (y 0, 77, .inl t_tried_w)), (a_t_kept, .inl (y 0, 616, .inl t_kept_w)), (a_t_text, .inl (y 1, 60, .inl t_text)), (a_t_told, .inl (y 0, 3, .inl t_told_w))] H := hP
          have hD : va_D A [(a_t, .inr (12, [.ref a_t_now, .ref a_t_tried, .ref a_t_kept, .int t_undos_w, .ref a_t_saved, .int t_isSaved, .ref a_t_line, .int t_lined, .ref a_t_text, .int t_length_w, .int (0 : Int32), .int t_order_w, .ref a_t_told, .int t_fault_w, .int t_reason_w, .int t_detail_w, .int t_index_w, .int t_answer_w, .int t_thrown_w, .ref a_t_way, .int t_went, .int t_fell])), (a_t_now, .inl (y 0, 77, .inl t_now_w)), (a_t_tried, .inl (y 0, 77, .inl t_tried_w)), (a_t_kept, .inl (y 0, 616, .inl t_kept_w)), (a_t_text, .inl (y 1, 60, .inl t_text)), (a_t_told, .inl (y 0, 3, .inl t_told_w))] := hD
          refine lv_iconst (v := 0) hx hb dX8_commands_87 (by decide) ?_
          refine lv_istore_n (lv' := [(2, .int (0 : Int32)), (0, .ref a_t), (1, .int x1)]) hx hb dX8_commands_88 rfl hl (by decide) rfl (fun ls hl => ?_)
          refine lv_iconst (v := 1) hx hb dX8_commands_89 (by decide) ?_
          refine lv_istore_n (lv' := [(3, .int (1 : Int32)), (2, .int (0 : Int32)), (0, .ref a_t), (1, .int x1)]) hx hb dX8_commands_90 rfl hl (by decide) rfl (fun ls hl => ?_)
          exact k_91 fl t_undos_w t_length_w (0 : Int32) t_order_w t_fault_w t_reason_w t_detail_w t_index_w t_answer_w t_thrown_w t_now_w t_tried_w t_kept_w t_told_w x1 (0 : Int32) (1 : Int32) hF _ _ hP hD hS ls (lv_sub hl [2, 3, 1, 0] rfl)
        · have hF := ift hF c_60
          refine lv_aload_n hx hb dX8_commands_63 rfl (lv_at hl 0 rfl) ?_
          refine lv_aload_n hx hb dX8_commands_64 rfl (lv_at hl 0 rfl) ?_
          refine va_get (D := D) (ci := 12) (v := .int t_at_w) (C := RX8) (T := TX8) (N := 22) hx hb hts iX8_commands_X8 hown hK hP 0 rfl rfl 10 (by decide) (hts (.fieldLink RX8 170 "SkipArchiveModel" "at" "I") (List.mem_of_getElem? (i := 1) rfl)) (fun _ h9 => h9) rfl dX8_commands_65 ?_
          refine va_put (D := D) (ci := 12) (v := .int t_at_w) (ty := .int) (C := RX8) (T := TX8) (N := 22) hx hb hts iX8_commands_X8 tyX8 tyX8_ok nmX8 hown hK hP hD hS 0 rfl rfl 13 (by decide) (hts (.fieldLink RX8 32 "SkipArchiveModel" "fault" "I") (List.mem_of_getElem? (i := 2) rfl)) (fun _ h9 => h9) rfl (by decide +kernel) rfl rfl (Nat.le_of_ble_eq_true rfl) dX8_commands_68 (fun H locs hP hD hS => ?_)
          have hP : va_P D vwCl [(a_t, .inr (12, [.ref a_t_now, .ref a_t_tried, .ref a_t_kept, .int t_undos_w, .ref a_t_saved, .int t_isSaved, .ref a_t_line, .int t_lined, .ref a_t_text, .int t_length_w, .int t_at_w, .int t_order_w, .ref a_t_told, .int t_at_w, .int t_reason_w, .int t_detail_w, .int t_index_w, .int t_answer_w, .int t_thrown_w, .ref a_t_way, .int t_went, .int t_fell])), (a_t_now, .inl (y 0, 77, .inl t_now_w)), (a_t_tried, .inl (y 0, 77, .inl t_tried_w)), (a_t_kept, .inl (y 0, 616, .inl t_kept_w)), (a_t_text, .inl (y 1, 60, .inl t_text)), (a_t_told, .inl (y 0, 3, .inl t_told_w))] H := hP
          have hD : va_D A [(a_t, .inr (12, [.ref a_t_now, .ref a_t_tried, .ref a_t_kept, .int t_undos_w, .ref a_t_saved, .int t_isSaved, .ref a_t_line, .int t_lined, .ref a_t_text, .int t_length_w, .int t_at_w, .int t_order_w, .ref a_t_told, .int t_at_w, .int t_reason_w, .int t_detail_w, .int t_index_w, .int t_answer_w, .int t_thrown_w, .ref a_t_way, .int t_went, .int t_fell])), (a_t_now, .inl (y 0, 77, .inl t_now_w)), (a_t_tried, .inl (y 0, 77, .inl t_tried_w)), (a_t_kept, .inl (y 0, 616, .inl t_kept_w)), (a_t_text, .inl (y 1, 60, .inl t_text)), (a_t_told, .inl (y 0, 3, .inl t_told_w))] := hD
          refine lv_aload_n hx hb dX8_commands_71 rfl (lv_at hl 0 rfl) ?_
          refine lv_iconst (v := 0) hx hb dX8_commands_72 (by decide) ?_
          refine va_put (D := D) (ci := 12) (v := .int (0 : Int32)) (ty := .int) (C := RX8) (T := TX8) (N := 22) hx hb hts iX8_commands_X8 tyX8 tyX8_ok nmX8 hown hK hP hD hS 0 rfl rfl 9 (by decide) (hts (.fieldLink RX8 167 "SkipArchiveModel" "length" "I") (List.mem_of_getElem? (i := 3) rfl)) (fun _ h9 => h9) rfl (by decide +kernel) rfl rfl (Nat.le_of_ble_eq_true rfl) dX8_commands_73 (fun H locs hP hD hS => ?_)
          have hP : va_P D vwCl [(a_t, .inr (12, [.ref a_t_now, .ref a_t_tried, .ref a_t_kept, .int t_undos_w, .ref a_t_saved, .int t_isSaved, .ref a_t_line, .int t_lined, .ref a_t_text, .int (0 : Int32), .int t_at_w, .int t_order_w, .ref a_t_told, .int t_at_w, .int t_reason_w, .int t_detail_w, .int t_index_w, .int t_answer_w, .int t_thrown_w, .ref a_t_way, .int t_went, .int t_fell])), (a_t_now, .inl (y 0, 77, .inl t_now_w)), (a_t_tried, .inl (y 0, 77, .inl t_tried_w)), (a_t_kept, .inl (y 0, 616, .inl t_kept_w)), (a_t_text, .inl (y 1, 60, .inl t_text)), (a_t_told, .inl (y 0, 3, .inl t_told_w))] H := hP
          have hD : va_D A [(a_t, .inr (12, [.ref a_t_now, .ref a_t_tried, .ref a_t_kept, .int t_undos_w, .ref a_t_saved, .int t_isSaved, .ref a_t_line, .int t_lined, .ref a_t_text, .int (0 : Int32), .int t_at_w, .int t_order_w, .ref a_t_told, .int t_at_w, .int t_reason_w, .int t_detail_w, .int t_index_w, .int t_answer_w, .int t_thrown_w, .ref a_t_way, .int t_went, .int t_fell])), (a_t_now, .inl (y 0, 77, .inl t_now_w)), (a_t_tried, .inl (y 0, 77, .inl t_tried_w)), (a_t_kept, .inl (y 0, 616, .inl t_kept_w)), (a_t_text, .inl (y 1, 60, .inl t_text)), (a_t_told, .inl (y 0, 3, .inl t_told_w))] := hD
          refine lv_aload_n hx hb dX8_commands_76 rfl (lv_at hl 0 rfl) ?_
          refine lv_iconst (v := 1) hx hb dX8_commands_77 (by decide) ?_
          obtain ⟨r_78, t_thrown_78, hq_78, hF⟩ := bn2_i hF
          refine cm_Vi (As := [.int (1 : Int32)]) (rest := []) (wr := [(a_t_now, .inl (y 0, 77, .inl t_now_w)), (a_t_tried, .inl (y 0, 77, .inl t_tried_w)), (a_t_kept, .inl (y 0, 616, .inl t_kept_w)), (a_t_text, .inl (y 1, 60, .inl t_text)), (a_t_told, .inl (y 0, 3, .inl t_told_w))]) ⟨hx, hb, hml, hown, hts⟩ (c_X8_raises l D y fl H.size a_t a_t_now a_t_tried a_t_kept a_t_saved a_t_line a_t_text a_t_told a_t_way t_undos_w t_isSaved t_lined (0 : Int32) t_at_w t_order_w t_at_w t_reason_w t_detail_w t_index_w t_answer_w t_thrown_w t_went t_fell (1 : Int32) r_78 t_thrown_78 hq_78) (cwV 1 hts gX8_commands_X8_raises rfl rfl rfl (by decide +kernel) ⟨Nat.le_of_ble_eq_true rfl, Nat.le_of_ble_eq_true rfl⟩) hK hP hD hS hA [0] [1, 2, 3, 4, 5] rfl rfl rfl rfl (by decide) rfl rfl rfl hl.1 rfl (Nat.le_of_ble_eq_true rfl) dX8_commands_78 ⟨Nat.le_of_ble_eq_true rfl, Nat.le_of_ble_eq_true rfl⟩ (fun H locs hP hD hS => ?_)
          have hP : va_P D vwCl [(a_t_now, .inl (y 0, 77, .inl t_now_w)), (a_t_tried, .inl (y 0, 77, .inl t_tried_w)), (a_t_kept, .inl (y 0, 616, .inl t_kept_w)), (a_t_text, .inl (y 1, 60, .inl t_text)), (a_t_told, .inl (y 0, 3, .inl t_told_w)), (a_t, .inr (12, [.ref a_t_now, .ref a_t_tried, .ref a_t_kept, .int t_undos_w, .ref a_t_saved, .int t_isSaved, .ref a_t_line, .int t_lined, .ref a_t_text, .int (0 : Int32), .int t_at_w, .int t_order_w, .ref a_t_told, .int t_at_w, .int t_reason_w, .int t_detail_w, .int t_index_w, .int t_answer_w, .int t_thrown_78, .ref a_t_way, .int t_went, .int t_fell]))] H := hP
          have hD : va_D A [(a_t_now, .inl (y 0, 77, .inl t_now_w)), (a_t_tried, .inl (y 0, 77, .inl t_tried_w)), (a_t_kept, .inl (y 0, 616, .inl t_kept_w)), (a_t_text, .inl (y 1, 60, .inl t_text)), (a_t_told, .inl (y 0, 3, .inl t_told_w)), (a_t, .inr (12, [.ref a_t_now, .ref a_t_tried, .ref a_t_kept, .int t_undos_w, .ref a_t_saved, .int t_isSaved, .ref a_t_line, .int t_lined, .ref a_t_text, .int (0 : Int32), .int t_at_w, .int t_order_w, .ref a_t_told, .int t_at_w, .int t_reason_w, .int t_detail_w, .int t_index_w, .int t_answer_w, .int t_thrown_78, .ref a_t_way, .int t_went, .int t_fell]))] := hD
          obtain ⟨e0_81, e1_81, e2_81, e3_81, e4_81, e5_81, e6_81, e7_81, e8_81, e9_81, e10_81, e11_81, e12_81, e13_81, e14_81⟩ := inj15 hF
          rw [← e0_81, ← e1_81, ← e2_81, ← e3_81, ← e4_81, ← e5_81, ← e6_81, ← e7_81, ← e8_81, ← e9_81, ← e10_81, ← e11_81, ← e12_81, ← e13_81, ← e14_81] at hQ0
          rw [hQ0]
          exact ret_i hx hb hr hlocks hAe hK hP hD hS [5, 0, 1, 2, 3, 4] rfl rfl dX8_commands_81
      · have hF := iff_ hF c_20
        refine lv_aload_n hx hb dX8_commands_23 rfl (lv_at hl 0 rfl) ?_
        refine va_get (D := D) (ci := 12) (v := .int t_at_w) (C := RX8) (T := TX8) (N := 22) hx hb hts iX8_commands_X8 hown hK hP 0 rfl rfl 10 (by decide) (hts (.fieldLink RX8 170 "SkipArchiveModel" "at" "I") (List.mem_of_getElem? (i := 1) rfl)) (fun _ h9 => h9) rfl dX8_commands_24 ?_
        refine lv_aload_n hx hb dX8_commands_27 rfl (lv_at hl 0 rfl) ?_
        refine va_get (D := D) (ci := 12) (v := .int t_length_w) (C := RX8) (T := TX8) (N := 22) hx hb hts iX8_commands_X8 hown hK hP 0 rfl rfl 9 (by decide) (hts (.fieldLink RX8 167 "SkipArchiveModel" "length" "I") (List.mem_of_getElem? (i := 3) rfl)) (fun _ h9 => h9) rfl dX8_commands_28 ?_
        refine lv_icmp_ge (tgt := 59) hx hb dX8_commands_31 (by decide) (fun c_31 => ?_) (fun c_31 => ?_)
        · have hF := ift hF c_31
          refine lv_iload_n hx hb dX8_commands_59 rfl (lv_at hl 1 rfl) ?_
          refine lv_if_ne (tgt := 82) hx hb dX8_commands_60 (by decide) (fun c_60b => ?_) (fun c_60b => ?_)
          · have hF := iff_ hF c_60b
            refine lv_aload_n hx hb dX8_commands_82 rfl (lv_at hl 0 rfl) ?_
            refine lv_iconst (v := 0) hx hb dX8_commands_83 (by decide) ?_
            refine va_put (D := D) (ci := 12) (v := .int (0 : Int32)) (ty := .int) (C := RX8) (T := TX8) (N := 22) hx hb hts iX8_commands_X8 tyX8 tyX8_ok nmX8 hown hK hP hD hS 0 rfl rfl 10 (by decide) (hts (.fieldLink RX8 170 "SkipArchiveModel" "at" "I") (List.mem_of_getElem? (i := 1) rfl)) (fun _ h9 => h9) rfl (by decide +kernel) rfl rfl (Nat.le_of_ble_eq_true rfl) dX8_commands_84 (fun H locs hP hD hS => ?_)
            have hP : va_P D vwCl [(a_t, .inr (12, [.ref a_t_now, .ref a_t_tried, .ref a_t_kept, .int t_undos_w, .ref a_t_saved, .int t_isSaved, .ref a_t_line, .int t_lined, .ref a_t_text, .int t_length_w, .int (0 : Int32), .int t_order_w, .ref a_t_told, .int t_fault_w, .int t_reason_w, .int t_detail_w, .int t_index_w, .int t_answer_w, .int t_thrown_w, .ref a_t_way, .int t_went, .int t_fell])), (a_t_now, .inl (y 0, 77, .inl t_now_w)), (a_t_tried, .inl (y 0, 77, .inl t_tried_w)), (a_t_kept, .inl (y 0, 616, .inl t_kept_w)), (a_t_text, .inl (y 1, 60, .inl t_text)), (a_t_told, .inl (y 0, 3, .inl t_told_w))] H := hP
            have hD : va_D A [(a_t, .inr (12, [.ref a_t_now, .ref a_t_tried, .ref a_t_kept, .int t_undos_w, .ref a_t_saved, .int t_isSaved, .ref a_t_line, .int t_lined, .ref a_t_text, .int t_length_w, .int (0 : Int32), .int t_order_w, .ref a_t_told, .int t_fault_w, .int t_reason_w, .int t_detail_w, .int t_index_w, .int t_answer_w, .int t_thrown_w, .ref a_t_way, .int t_went, .int t_fell])), (a_t_now, .inl (y 0, 77, .inl t_now_w)), (a_t_tried, .inl (y 0, 77, .inl t_tried_w)), (a_t_kept, .inl (y 0, 616, .inl t_kept_w)), (a_t_text, .inl (y 1, 60, .inl t_text)), (a_t_told, .inl (y 0, 3, .inl t_told_w))] := hD
            refine lv_iconst (v := 0) hx hb dX8_commands_87 (by decide) ?_
            refine lv_istore_n (lv' := [(2, .int (0 : Int32)), (0, .ref a_t), (1, .int x1)]) hx hb dX8_commands_88 rfl hl (by decide) rfl (fun ls hl => ?_)
            refine lv_iconst (v := 1) hx hb dX8_commands_89 (by decide) ?_
            refine lv_istore_n (lv' := [(3, .int (1 : Int32)), (2, .int (0 : Int32)), (0, .ref a_t), (1, .int x1)]) hx hb dX8_commands_90 rfl hl (by decide) rfl (fun ls hl => ?_)
            exact k_91 fl t_undos_w t_length_w (0 : Int32) t_order_w t_fault_w t_reason_w t_detail_w t_index_w t_answer_w t_thrown_w t_now_w t_tried_w t_kept_w t_told_w x1 (0 : Int32) (1 : Int32) hF _ _ hP hD hS ls (lv_sub hl [2, 3, 1, 0] rfl)
          · have hF := ift hF c_60b
            refine lv_aload_n hx hb dX8_commands_63 rfl (lv_at hl 0 rfl) ?_
            refine lv_aload_n hx hb dX8_commands_64 rfl (lv_at hl 0 rfl) ?_
            refine va_get (D := D) (ci := 12) (v := .int t_at_w) (C := RX8) (T := TX8) (N := 22) hx hb hts iX8_commands_X8 hown hK hP 0 rfl rfl 10 (by decide) (hts (.fieldLink RX8 170 "SkipArchiveModel" "at" "I") (List.mem_of_getElem? (i := 1) rfl)) (fun _ h9 => h9) rfl dX8_commands_65 ?_
            refine va_put (D := D) (ci := 12) (v := .int t_at_w) (ty := .int) (C := RX8) (T := TX8) (N := 22) hx hb hts iX8_commands_X8 tyX8 tyX8_ok nmX8 hown hK hP hD hS 0 rfl rfl 13 (by decide) (hts (.fieldLink RX8 32 "SkipArchiveModel" "fault" "I") (List.mem_of_getElem? (i := 2) rfl)) (fun _ h9 => h9) rfl (by decide +kernel) rfl rfl (Nat.le_of_ble_eq_true rfl) dX8_commands_68 (fun H locs hP hD hS => ?_)
            have hP : va_P D vwCl [(a_t, .inr (12, [.ref a_t_now, .ref a_t_tried, .ref a_t_kept, .int t_undos_w, .ref a_t_saved, .int t_isSaved, .ref a_t_line, .int t_lined, .ref a_t_text, .int t_length_w, .int t_at_w, .int t_order_w, .ref a_t_told, .int t_at_w, .int t_reason_w, .int t_detail_w, .int t_index_w, .int t_answer_w, .int t_thrown_w, .ref a_t_way, .int t_went, .int t_fell])), (a_t_now, .inl (y 0, 77, .inl t_now_w)), (a_t_tried, .inl (y 0, 77, .inl t_tried_w)), (a_t_kept, .inl (y 0, 616, .inl t_kept_w)), (a_t_text, .inl (y 1, 60, .inl t_text)), (a_t_told, .inl (y 0, 3, .inl t_told_w))] H := hP
            have hD : va_D A [(a_t, .inr (12, [.ref a_t_now, .ref a_t_tried, .ref a_t_kept, .int t_undos_w, .ref a_t_saved, .int t_isSaved, .ref a_t_line, .int t_lined, .ref a_t_text, .int t_length_w, .int t_at_w, .int t_order_w, .ref a_t_told, .int t_at_w, .int t_reason_w, .int t_detail_w, .int t_index_w, .int t_answer_w, .int t_thrown_w, .ref a_t_way, .int t_went, .int t_fell])), (a_t_now, .inl (y 0, 77, .inl t_now_w)), (a_t_tried, .inl (y 0, 77, .inl t_tried_w)), (a_t_kept, .inl (y 0, 616, .inl t_kept_w)), (a_t_text, .inl (y 1, 60, .inl t_text)), (a_t_told, .inl (y 0, 3, .inl t_told_w))] := hD
            refine lv_aload_n hx hb dX8_commands_71 rfl (lv_at hl 0 rfl) ?_
            refine lv_iconst (v := 0) hx hb dX8_commands_72 (by decide) ?_
            refine va_put (D := D) (ci := 12) (v := .int (0 : Int32)) (ty := .int) (C := RX8) (T := TX8) (N := 22) hx hb hts iX8_commands_X8 tyX8 tyX8_ok nmX8 hown hK hP hD hS 0 rfl rfl 9 (by decide) (hts (.fieldLink RX8 167 "SkipArchiveModel" "length" "I") (List.mem_of_getElem? (i := 3) rfl)) (fun _ h9 => h9) rfl (by decide +kernel) rfl rfl (Nat.le_of_ble_eq_true rfl) dX8_commands_73 (fun H locs hP hD hS => ?_)
            have hP : va_P D vwCl [(a_t, .inr (12, [.ref a_t_now, .ref a_t_tried, .ref a_t_kept, .int t_undos_w, .ref a_t_saved, .int t_isSaved, .ref a_t_line, .int t_lined, .ref a_t_text, .int (0 : Int32), .int t_at_w, .int t_order_w, .ref a_t_told, .int t_at_w, .int t_reason_w, .int t_detail_w, .int t_index_w, .int t_answer_w, .int t_thrown_w, .ref a_t_way, .int t_went, .int t_fell])), (a_t_now, .inl (y 0, 77, .inl t_now_w)), (a_t_tried, .inl (y 0, 77, .inl t_tried_w)), (a_t_kept, .inl (y 0, 616, .inl t_kept_w)), (a_t_text, .inl (y 1, 60, .inl t_text)), (a_t_told, .inl (y 0, 3, .inl t_told_w))] H := hP
            have hD : va_D A [(a_t, .inr (12, [.ref a_t_now, .ref a_t_tried, .ref a_t_kept, .int t_undos_w, .ref a_t_saved, .int t_isSaved, .ref a_t_line, .int t_lined, .ref a_t_text, .int (0 : Int32), .int t_at_w, .int t_order_w, .ref a_t_told, .int t_at_w, .int t_reason_w, .int t_detail_w, .int t_index_w, .int t_answer_w, .int t_thrown_w, .ref a_t_way, .int t_went, .int t_fell])), (a_t_now, .inl (y 0, 77, .inl t_now_w)), (a_t_tried, .inl (y 0, 77, .inl t_tried_w)), (a_t_kept, .inl (y 0, 616, .inl t_kept_w)), (a_t_text, .inl (y 1, 60, .inl t_text)), (a_t_told, .inl (y 0, 3, .inl t_told_w))] := hD
            refine lv_aload_n hx hb dX8_commands_76 rfl (lv_at hl 0 rfl) ?_
            refine lv_iconst (v := 1) hx hb dX8_commands_77 (by decide) ?_
            obtain ⟨r_78b, t_thrown_78b, hq_78b, hF⟩ := bn2_i hF
            refine cm_Vi (As := [.int (1 : Int32)]) (rest := []) (wr := [(a_t_now, .inl (y 0, 77, .inl t_now_w)), (a_t_tried, .inl (y 0, 77, .inl t_tried_w)), (a_t_kept, .inl (y 0, 616, .inl t_kept_w)), (a_t_text, .inl (y 1, 60, .inl t_text)), (a_t_told, .inl (y 0, 3, .inl t_told_w))]) ⟨hx, hb, hml, hown, hts⟩ (c_X8_raises l D y fl H.size a_t a_t_now a_t_tried a_t_kept a_t_saved a_t_line a_t_text a_t_told a_t_way t_undos_w t_isSaved t_lined (0 : Int32) t_at_w t_order_w t_at_w t_reason_w t_detail_w t_index_w t_answer_w t_thrown_w t_went t_fell (1 : Int32) r_78b t_thrown_78b hq_78b) (cwV 1 hts gX8_commands_X8_raises rfl rfl rfl (by decide +kernel) ⟨Nat.le_of_ble_eq_true rfl, Nat.le_of_ble_eq_true rfl⟩) hK hP hD hS hA [0] [1, 2, 3, 4, 5] rfl rfl rfl rfl (by decide) rfl rfl rfl hl.1 rfl (Nat.le_of_ble_eq_true rfl) dX8_commands_78 ⟨Nat.le_of_ble_eq_true rfl, Nat.le_of_ble_eq_true rfl⟩ (fun H locs hP hD hS => ?_)
            have hP : va_P D vwCl [(a_t_now, .inl (y 0, 77, .inl t_now_w)), (a_t_tried, .inl (y 0, 77, .inl t_tried_w)), (a_t_kept, .inl (y 0, 616, .inl t_kept_w)), (a_t_text, .inl (y 1, 60, .inl t_text)), (a_t_told, .inl (y 0, 3, .inl t_told_w)), (a_t, .inr (12, [.ref a_t_now, .ref a_t_tried, .ref a_t_kept, .int t_undos_w, .ref a_t_saved, .int t_isSaved, .ref a_t_line, .int t_lined, .ref a_t_text, .int (0 : Int32), .int t_at_w, .int t_order_w, .ref a_t_told, .int t_at_w, .int t_reason_w, .int t_detail_w, .int t_index_w, .int t_answer_w, .int t_thrown_78b, .ref a_t_way, .int t_went, .int t_fell]))] H := hP
            have hD : va_D A [(a_t_now, .inl (y 0, 77, .inl t_now_w)), (a_t_tried, .inl (y 0, 77, .inl t_tried_w)), (a_t_kept, .inl (y 0, 616, .inl t_kept_w)), (a_t_text, .inl (y 1, 60, .inl t_text)), (a_t_told, .inl (y 0, 3, .inl t_told_w)), (a_t, .inr (12, [.ref a_t_now, .ref a_t_tried, .ref a_t_kept, .int t_undos_w, .ref a_t_saved, .int t_isSaved, .ref a_t_line, .int t_lined, .ref a_t_text, .int (0 : Int32), .int t_at_w, .int t_order_w, .ref a_t_told, .int t_at_w, .int t_reason_w, .int t_detail_w, .int t_index_w, .int t_answer_w, .int t_thrown_78b, .ref a_t_way, .int t_went, .int t_fell]))] := hD
            obtain ⟨e0_81, e1_81, e2_81, e3_81, e4_81, e5_81, e6_81, e7_81, e8_81, e9_81, e10_81, e11_81, e12_81, e13_81, e14_81⟩ := inj15 hF
            rw [← e0_81, ← e1_81, ← e2_81, ← e3_81, ← e4_81, ← e5_81, ← e6_81, ← e7_81, ← e8_81, ← e9_81, ← e10_81, ← e11_81, ← e12_81, ← e13_81, ← e14_81] at hQ0
            rw [hQ0]
            exact ret_i hx hb hr hlocks hAe hK hP hD hS [5, 0, 1, 2, 3, 4] rfl rfl dX8_commands_81
        · have hF := iff_ hF c_31
          refine lv_aload_n hx hb dX8_commands_34 rfl (lv_at hl 0 rfl) ?_
          refine lv_bipush (v := 59) hx hb dX8_commands_35 (by decide) ?_
          obtain ⟨r_37, t_at_37, hq_37, hF⟩ := bn2_i hF
          refine cm_Vi (As := [.int (59 : Int32)]) (rest := []) (wr := [(a_t_now, .inl (y 0, 77, .inl t_now_w)), (a_t_tried, .inl (y 0, 77, .inl t_tried_w)), (a_t_kept, .inl (y 0, 616, .inl t_kept_w)), (a_t_told, .inl (y 0, 3, .inl t_told_w))]) ⟨hx, hb, hml, hown, hts⟩ (c_X8_sign l D y fl H.size a_t a_t_now a_t_tried a_t_kept a_t_saved a_t_line a_t_text a_t_told a_t_way t_undos_w t_isSaved t_lined t_length_w t_at_w t_order_w t_fault_w t_reason_w t_detail_w t_index_w t_answer_w t_thrown_w t_went t_fell t_text (59 : Int32) r_37 t_at_37 hq_37) (cwV 1 hts gX8_commands_X8_sign rfl rfl rfl (by decide +kernel) ⟨Nat.le_of_ble_eq_true rfl, Nat.le_of_ble_eq_true rfl⟩) hK hP hD hS hA [0, 4] [1, 2, 3, 5] rfl rfl rfl rfl (by decide) rfl rfl rfl hl.1 rfl (Nat.le_of_ble_eq_true rfl) dX8_commands_37 ⟨Nat.le_of_ble_eq_true rfl, Nat.le_of_ble_eq_true rfl⟩ (fun H locs hP hD hS => ?_)
          have hP : va_P D vwCl [(a_t_now, .inl (y 0, 77, .inl t_now_w)), (a_t_tried, .inl (y 0, 77, .inl t_tried_w)), (a_t_kept, .inl (y 0, 616, .inl t_kept_w)), (a_t_told, .inl (y 0, 3, .inl t_told_w)), (a_t, .inr (12, [.ref a_t_now, .ref a_t_tried, .ref a_t_kept, .int t_undos_w, .ref a_t_saved, .int t_isSaved, .ref a_t_line, .int t_lined, .ref a_t_text, .int t_length_w, .int t_at_37, .int t_order_w, .ref a_t_told, .int t_fault_w, .int t_reason_w, .int t_detail_w, .int t_index_w, .int t_answer_w, .int t_thrown_w, .ref a_t_way, .int t_went, .int t_fell])), (a_t_text, .inl (y 1, 60, .inl t_text))] H := hP
          have hD : va_D A [(a_t_now, .inl (y 0, 77, .inl t_now_w)), (a_t_tried, .inl (y 0, 77, .inl t_tried_w)), (a_t_kept, .inl (y 0, 616, .inl t_kept_w)), (a_t_told, .inl (y 0, 3, .inl t_told_w)), (a_t, .inr (12, [.ref a_t_now, .ref a_t_tried, .ref a_t_kept, .int t_undos_w, .ref a_t_saved, .int t_isSaved, .ref a_t_line, .int t_lined, .ref a_t_text, .int t_length_w, .int t_at_37, .int t_order_w, .ref a_t_told, .int t_fault_w, .int t_reason_w, .int t_detail_w, .int t_index_w, .int t_answer_w, .int t_thrown_w, .ref a_t_way, .int t_went, .int t_fell])), (a_t_text, .inl (y 1, 60, .inl t_text))] := hD
          refine lv_if_eq (tgt := 54) hx hb dX8_commands_40 (by decide) (fun c_40 => ?_) (fun c_40 => ?_)
          · have hF := ift hF c_40
            refine lv_iconst (v := 0) hx hb dX8_commands_54 (by decide) ?_
            refine lv_istore_n (lv' := [(1, .int (0 : Int32)), (0, .ref a_t)]) hx hb dX8_commands_55 rfl hl (by decide) rfl (fun ls hl => ?_)
            refine lv_goto (tgt := 19) hx hb dX8_commands_56 (by decide) ?_
            exact ih t_undos_w t_length_w t_at_37 t_order_w t_fault_w t_reason_w t_detail_w t_index_w t_answer_w t_thrown_w t_now_w t_tried_w t_kept_w t_told_w (0 : Int32) hF _ _ (hP.sub [4, 0, 1, 2, 5, 3] rfl) (hD.sub [4, 0, 1, 2, 5, 3] (by decide) rfl) hS ls (lv_sub hl [1, 0] rfl)
          · have hF := iff_ hF c_40
            refine lv_aload_n hx hb dX8_commands_43 rfl (lv_at hl 0 rfl) ?_
            obtain ⟨r_44, t_at_44, t_order_44, t_told_44, hq_44, hF⟩ := bn4_i hF
            refine cm_Vi (As := []) (rest := []) (wr := [(a_t_now, .inl (y 0, 77, .inl t_now_w)), (a_t_tried, .inl (y 0, 77, .inl t_tried_w)), (a_t_kept, .inl (y 0, 616, .inl t_kept_w))]) ⟨hx, hb, hml, hown, hts⟩ (c_X8_isCommand l D y fl H.size a_t a_t_now a_t_tried a_t_kept a_t_saved a_t_line a_t_text a_t_told a_t_way t_undos_w t_isSaved t_lined t_length_w t_at_37 t_order_w t_fault_w t_reason_w t_detail_w t_index_w t_answer_w t_thrown_w t_went t_fell t_text t_told_w r_44 t_at_44 t_order_44 t_told_44 hq_44) (cwV 0 hts gX8_commands_X8_isCommand rfl rfl rfl (by decide +kernel) ⟨Nat.le_of_ble_eq_true rfl, Nat.le_of_ble_eq_true rfl⟩) hK hP hD hS hA [4, 5, 3] [0, 1, 2] rfl rfl rfl rfl (by decide) rfl rfl rfl hl.1 rfl (Nat.le_of_ble_eq_true rfl) dX8_commands_44 ⟨Nat.le_of_ble_eq_true rfl, Nat.le_of_ble_eq_true rfl⟩ (fun H locs hP hD hS => ?_)
            have hP : va_P D vwCl [(a_t_now, .inl (y 0, 77, .inl t_now_w)), (a_t_tried, .inl (y 0, 77, .inl t_tried_w)), (a_t_kept, .inl (y 0, 616, .inl t_kept_w)), (a_t, .inr (12, [.ref a_t_now, .ref a_t_tried, .ref a_t_kept, .int t_undos_w, .ref a_t_saved, .int t_isSaved, .ref a_t_line, .int t_lined, .ref a_t_text, .int t_length_w, .int t_at_44, .int t_order_44, .ref a_t_told, .int t_fault_w, .int t_reason_w, .int t_detail_w, .int t_index_w, .int t_answer_w, .int t_thrown_w, .ref a_t_way, .int t_went, .int t_fell])), (a_t_text, .inl (y 1, 60, .inl t_text)), (a_t_told, .inl (y 0, 3, .inl t_told_44))] H := hP
            have hD : va_D A [(a_t_now, .inl (y 0, 77, .inl t_now_w)), (a_t_tried, .inl (y 0, 77, .inl t_tried_w)), (a_t_kept, .inl (y 0, 616, .inl t_kept_w)), (a_t, .inr (12, [.ref a_t_now, .ref a_t_tried, .ref a_t_kept, .int t_undos_w, .ref a_t_saved, .int t_isSaved, .ref a_t_line, .int t_lined, .ref a_t_text, .int t_length_w, .int t_at_44, .int t_order_44, .ref a_t_told, .int t_fault_w, .int t_reason_w, .int t_detail_w, .int t_index_w, .int t_answer_w, .int t_thrown_w, .ref a_t_way, .int t_went, .int t_fell])), (a_t_text, .inl (y 1, 60, .inl t_text)), (a_t_told, .inl (y 0, 3, .inl t_told_44))] := hD
            refine lv_if_eq (tgt := 54) hx hb dX8_commands_47 (by decide) (fun c_47 => ?_) (fun c_47 => ?_)
            · have hF := ift hF c_47
              refine lv_iconst (v := 0) hx hb dX8_commands_54 (by decide) ?_
              refine lv_istore_n (lv' := [(1, .int (0 : Int32)), (0, .ref a_t)]) hx hb dX8_commands_55 rfl hl (by decide) rfl (fun ls hl => ?_)
              refine lv_goto (tgt := 19) hx hb dX8_commands_56 (by decide) ?_
              exact ih t_undos_w t_length_w t_at_44 t_order_44 t_fault_w t_reason_w t_detail_w t_index_w t_answer_w t_thrown_w t_now_w t_tried_w t_kept_w t_told_44 (0 : Int32) hF _ _ (hP.sub [3, 0, 1, 2, 4, 5] rfl) (hD.sub [3, 0, 1, 2, 4, 5] (by decide) rfl) hS ls (lv_sub hl [1, 0] rfl)
            · have hF := iff_ hF c_47
              refine lv_iconst (v := 1) hx hb dX8_commands_50 (by decide) ?_
              refine lv_goto (tgt := 55) hx hb dX8_commands_51 (by decide) ?_
              refine lv_istore_n (lv' := [(1, .int (1 : Int32)), (0, .ref a_t)]) hx hb dX8_commands_55 rfl hl (by decide) rfl (fun ls hl => ?_)
              refine lv_goto (tgt := 19) hx hb dX8_commands_56 (by decide) ?_
              exact ih t_undos_w t_length_w t_at_44 t_order_44 t_fault_w t_reason_w t_detail_w t_index_w t_answer_w t_thrown_w t_now_w t_tried_w t_kept_w t_told_44 (1 : Int32) hF _ _ (hP.sub [3, 0, 1, 2, 4, 5] rfl) (hD.sub [3, 0, 1, 2, 4, 5] (by decide) rfl) hS ls (lv_sub hl [1, 0] rfl)
  refine W_entry hav (Nat.le_of_ble_eq_true rfl) (fun ls hl => ?_)
  have hl : lv_has ls 4 [(0, .ref a_t)] := hl
  refine lv_aload_n hx hb dX8_commands_0 rfl (lv_at hl 0 rfl) ?_
  obtain ⟨t_thrown_1, t_tried_1, hq_1, hF⟩ := bn2_i hF
  refine cm_Vv (As := []) (rest := []) (wr := [(a_t_kept, .inl (y 0, 616, .inl t_kept)), (a_t_text, .inl (y 1, 60, .inl t_text)), (a_t_told, .inl (y 0, 3, .inl t_told))]) ⟨hx, hb, hml, hown, hts⟩ (c_X8_tries l D y fl s.heap.size a_t a_t_now a_t_tried a_t_kept a_t_saved a_t_line a_t_text a_t_told a_t_way t_undos t_isSaved t_lined t_length t_at t_order t_fault t_reason t_detail t_index t_answer t_thrown t_went t_fell t_now t_tried t_thrown_1 t_tried_1 hq_1) (cwV 0 hts gX8_commands_X8_tries rfl rfl rfl (by decide +kernel) ⟨Nat.le_of_ble_eq_true rfl, Nat.le_of_ble_eq_true rfl⟩) hK hP hD hS hA [0, 1, 2] [3, 4, 5] rfl rfl rfl rfl (by decide) rfl rfl rfl hl.1 rfl (Nat.le_of_ble_eq_true rfl) dX8_commands_1 ⟨Nat.le_of_ble_eq_true rfl, Nat.le_of_ble_eq_true rfl⟩ (fun H locs hP hD hS => ?_)
  have hP : va_P D vwCl [(a_t_kept, .inl (y 0, 616, .inl t_kept)), (a_t_text, .inl (y 1, 60, .inl t_text)), (a_t_told, .inl (y 0, 3, .inl t_told)), (a_t, .inr (12, [.ref a_t_now, .ref a_t_tried, .ref a_t_kept, .int t_undos, .ref a_t_saved, .int t_isSaved, .ref a_t_line, .int t_lined, .ref a_t_text, .int t_length, .int t_at, .int t_order, .ref a_t_told, .int t_fault, .int t_reason, .int t_detail, .int t_index, .int t_answer, .int t_thrown_1, .ref a_t_way, .int t_went, .int t_fell])), (a_t_now, .inl (y 0, 77, .inl t_now)), (a_t_tried, .inl (y 0, 77, .inl t_tried_1))] H := hP
  have hD : va_D A [(a_t_kept, .inl (y 0, 616, .inl t_kept)), (a_t_text, .inl (y 1, 60, .inl t_text)), (a_t_told, .inl (y 0, 3, .inl t_told)), (a_t, .inr (12, [.ref a_t_now, .ref a_t_tried, .ref a_t_kept, .int t_undos, .ref a_t_saved, .int t_isSaved, .ref a_t_line, .int t_lined, .ref a_t_text, .int t_length, .int t_at, .int t_order, .ref a_t_told, .int t_fault, .int t_reason, .int t_detail, .int t_index, .int t_answer, .int t_thrown_1, .ref a_t_way, .int t_went, .int t_fell])), (a_t_now, .inl (y 0, 77, .inl t_now)), (a_t_tried, .inl (y 0, 77, .inl t_tried_1))] := hD
  refine lv_aload_n hx hb dX8_commands_4 rfl (lv_at hl 0 rfl) ?_
  refine lv_iconst (v := 0) hx hb dX8_commands_5 (by decide) ?_
  refine va_put (D := D) (ci := 12) (v := .int (0 : Int32)) (ty := .int) (C := RX8) (T := TX8) (N := 22) hx hb hts iX8_commands_X8 tyX8 tyX8_ok nmX8 hown hK hP hD hS 3 rfl rfl 10 (by decide) (hts (.fieldLink RX8 170 "SkipArchiveModel" "at" "I") (List.mem_of_getElem? (i := 1) rfl)) (fun _ h9 => h9) rfl (by decide +kernel) rfl rfl (Nat.le_of_ble_eq_true rfl) dX8_commands_6 (fun H locs hP hD hS => ?_)
  have hP : va_P D vwCl [(a_t_kept, .inl (y 0, 616, .inl t_kept)), (a_t_text, .inl (y 1, 60, .inl t_text)), (a_t_told, .inl (y 0, 3, .inl t_told)), (a_t, .inr (12, [.ref a_t_now, .ref a_t_tried, .ref a_t_kept, .int t_undos, .ref a_t_saved, .int t_isSaved, .ref a_t_line, .int t_lined, .ref a_t_text, .int t_length, .int (0 : Int32), .int t_order, .ref a_t_told, .int t_fault, .int t_reason, .int t_detail, .int t_index, .int t_answer, .int t_thrown_1, .ref a_t_way, .int t_went, .int t_fell])), (a_t_now, .inl (y 0, 77, .inl t_now)), (a_t_tried, .inl (y 0, 77, .inl t_tried_1))] H := hP
  have hD : va_D A [(a_t_kept, .inl (y 0, 616, .inl t_kept)), (a_t_text, .inl (y 1, 60, .inl t_text)), (a_t_told, .inl (y 0, 3, .inl t_told)), (a_t, .inr (12, [.ref a_t_now, .ref a_t_tried, .ref a_t_kept, .int t_undos, .ref a_t_saved, .int t_isSaved, .ref a_t_line, .int t_lined, .ref a_t_text, .int t_length, .int (0 : Int32), .int t_order, .ref a_t_told, .int t_fault, .int t_reason, .int t_detail, .int t_index, .int t_answer, .int t_thrown_1, .ref a_t_way, .int t_went, .int t_fell])), (a_t_now, .inl (y 0, 77, .inl t_now)), (a_t_tried, .inl (y 0, 77, .inl t_tried_1))] := hD
  refine lv_aload_n hx hb dX8_commands_9 rfl (lv_at hl 0 rfl) ?_
  refine lv_iconst (v := -1) hx hb dX8_commands_10 (by decide) ?_
  refine va_put (D := D) (ci := 12) (v := .int (-1 : Int32)) (ty := .int) (C := RX8) (T := TX8) (N := 22) hx hb hts iX8_commands_X8 tyX8 tyX8_ok nmX8 hown hK hP hD hS 3 rfl rfl 13 (by decide) (hts (.fieldLink RX8 32 "SkipArchiveModel" "fault" "I") (List.mem_of_getElem? (i := 2) rfl)) (fun _ h9 => h9) rfl (by decide +kernel) rfl rfl (Nat.le_of_ble_eq_true rfl) dX8_commands_11 (fun H locs hP hD hS => ?_)
  have hP : va_P D vwCl [(a_t_kept, .inl (y 0, 616, .inl t_kept)), (a_t_text, .inl (y 1, 60, .inl t_text)), (a_t_told, .inl (y 0, 3, .inl t_told)), (a_t, .inr (12, [.ref a_t_now, .ref a_t_tried, .ref a_t_kept, .int t_undos, .ref a_t_saved, .int t_isSaved, .ref a_t_line, .int t_lined, .ref a_t_text, .int t_length, .int (0 : Int32), .int t_order, .ref a_t_told, .int (-1 : Int32), .int t_reason, .int t_detail, .int t_index, .int t_answer, .int t_thrown_1, .ref a_t_way, .int t_went, .int t_fell])), (a_t_now, .inl (y 0, 77, .inl t_now)), (a_t_tried, .inl (y 0, 77, .inl t_tried_1))] H := hP
  have hD : va_D A [(a_t_kept, .inl (y 0, 616, .inl t_kept)), (a_t_text, .inl (y 1, 60, .inl t_text)), (a_t_told, .inl (y 0, 3, .inl t_told)), (a_t, .inr (12, [.ref a_t_now, .ref a_t_tried, .ref a_t_kept, .int t_undos, .ref a_t_saved, .int t_isSaved, .ref a_t_line, .int t_lined, .ref a_t_text, .int t_length, .int (0 : Int32), .int t_order, .ref a_t_told, .int (-1 : Int32), .int t_reason, .int t_detail, .int t_index, .int t_answer, .int t_thrown_1, .ref a_t_way, .int t_went, .int t_fell])), (a_t_now, .inl (y 0, 77, .inl t_now)), (a_t_tried, .inl (y 0, 77, .inl t_tried_1))] := hD
  refine lv_aload_n hx hb dX8_commands_14 rfl (lv_at hl 0 rfl) ?_
  obtain ⟨r_15, t_at_15, t_order_15, t_told_15, hq_15, hF⟩ := bn4_i hF
  refine cm_Vi (As := []) (rest := []) (wr := [(a_t_kept, .inl (y 0, 616, .inl t_kept)), (a_t_now, .inl (y 0, 77, .inl t_now)), (a_t_tried, .inl (y 0, 77, .inl t_tried_1))]) ⟨hx, hb, hml, hown, hts⟩ (c_X8_isCommand l D y fl H.size a_t a_t_now a_t_tried a_t_kept a_t_saved a_t_line a_t_text a_t_told a_t_way t_undos t_isSaved t_lined t_length (0 : Int32) t_order (-1 : Int32) t_reason t_detail t_index t_answer t_thrown_1 t_went t_fell t_text t_told r_15 t_at_15 t_order_15 t_told_15 hq_15) (cwV 0 hts gX8_commands_X8_isCommand rfl rfl rfl (by decide +kernel) ⟨Nat.le_of_ble_eq_true rfl, Nat.le_of_ble_eq_true rfl⟩) hK hP hD hS hA [3, 1, 2] [0, 4, 5] rfl rfl rfl rfl (by decide) rfl rfl rfl hl.1 rfl (Nat.le_of_ble_eq_true rfl) dX8_commands_15 ⟨Nat.le_of_ble_eq_true rfl, Nat.le_of_ble_eq_true rfl⟩ (fun H locs hP hD hS => ?_)
  have hP : va_P D vwCl [(a_t_kept, .inl (y 0, 616, .inl t_kept)), (a_t_now, .inl (y 0, 77, .inl t_now)), (a_t_tried, .inl (y 0, 77, .inl t_tried_1)), (a_t, .inr (12, [.ref a_t_now, .ref a_t_tried, .ref a_t_kept, .int t_undos, .ref a_t_saved, .int t_isSaved, .ref a_t_line, .int t_lined, .ref a_t_text, .int t_length, .int t_at_15, .int t_order_15, .ref a_t_told, .int (-1 : Int32), .int t_reason, .int t_detail, .int t_index, .int t_answer, .int t_thrown_1, .ref a_t_way, .int t_went, .int t_fell])), (a_t_text, .inl (y 1, 60, .inl t_text)), (a_t_told, .inl (y 0, 3, .inl t_told_15))] H := hP
  have hD : va_D A [(a_t_kept, .inl (y 0, 616, .inl t_kept)), (a_t_now, .inl (y 0, 77, .inl t_now)), (a_t_tried, .inl (y 0, 77, .inl t_tried_1)), (a_t, .inr (12, [.ref a_t_now, .ref a_t_tried, .ref a_t_kept, .int t_undos, .ref a_t_saved, .int t_isSaved, .ref a_t_line, .int t_lined, .ref a_t_text, .int t_length, .int t_at_15, .int t_order_15, .ref a_t_told, .int (-1 : Int32), .int t_reason, .int t_detail, .int t_index, .int t_answer, .int t_thrown_1, .ref a_t_way, .int t_went, .int t_fell])), (a_t_text, .inl (y 1, 60, .inl t_text)), (a_t_told, .inl (y 0, 3, .inl t_told_15))] := hD
  refine lv_istore_n (lv' := [(1, .int r_15), (0, .ref a_t)]) hx hb dX8_commands_18 rfl hl (by decide) rfl (fun ls hl => ?_)
  exact k_19 fl t_undos t_length t_at_15 t_order_15 (-1 : Int32) t_reason t_detail t_index t_answer t_thrown_1 t_now t_tried_1 t_kept t_told_15 r_15 hF _ _ (hP.sub [3, 1, 2, 0, 4, 5] rfl) (hD.sub [3, 1, 2, 0, 4, 5] (by decide) rfl) hS ls (lv_sub hl [1, 0] rfl)
def F_X8_faultPosition (fl : Nat) (t_fault : Int32) (t_thrown : Int32) : Option (Int32 × Int32) := some (t_fault, (0 : Int32))
theorem iX8_faultPosition_X8 : ∀ w ∈ u_ws RX8 TX8 22, w ∈ wsX8_faultPosition := fun w h => List.mem_cons_of_mem _ (List.mem_append_right _ h)
set_option maxHeartbeats 4000000 in
set_option maxRecDepth 100000 in
theorem c_X8_faultPosition (l : Launch) (D : va_G) (y : Nat → ClassId) (fl : Nat) (sz : Nat) (a_t : Nat) (a_t_now : Nat) (a_t_tried : Nat) (a_t_kept : Nat) (a_t_saved : Nat) (a_t_line : Nat) (a_t_text : Nat) (a_t_told : Nat) (a_t_way : Nat) (t_undos : Int32) (t_isSaved : Int32) (t_lined : Int32) (t_length : Int32) (t_at : Int32) (t_order : Int32) (t_fault : Int32) (t_reason : Int32) (t_detail : Int32) (t_index : Int32) (t_answer : Int32) (t_thrown : Int32) (t_went : Int32) (t_fell : Int32) (r : Int32) (t_thrown' : Int32) (hF : F_X8_faultPosition fl t_fault t_thrown = some (r, t_thrown')) : Met l yX8_faultPosition wsX8_faultPosition (rmq 0 0) (wrP D y [(a_t, .inr (12, [.ref a_t_now, .ref a_t_tried, .ref a_t_kept, .int t_undos, .ref a_t_saved, .int t_isSaved, .ref a_t_line, .int t_lined, .ref a_t_text, .int t_length, .int t_at, .int t_order, .ref a_t_told, .int t_fault, .int t_reason, .int t_detail, .int t_index, .int t_answer, .int t_thrown, .ref a_t_way, .int t_went, .int t_fell]))] sz [.ref a_t]) (wQi D y r [(a_t, .inr (12, [.ref a_t_now, .ref a_t_tried, .ref a_t_kept, .int t_undos, .ref a_t_saved, .int t_isSaved, .ref a_t_line, .int t_lined, .ref a_t_text, .int t_length, .int t_at, .int t_order, .ref a_t_told, .int t_fault, .int t_reason, .int t_detail, .int t_index, .int t_answer, .int t_thrown', .ref a_t_way, .int t_went, .int t_fell]))] [(a_t, .inr (12, [.ref a_t_now, .ref a_t_tried, .ref a_t_kept, .int t_undos, .ref a_t_saved, .int t_isSaved, .ref a_t_line, .int t_lined, .ref a_t_text, .int t_length, .int t_at, .int t_order, .ref a_t_told, .int t_fault, .int t_reason, .int t_detail, .int t_index, .int t_answer, .int t_thrown, .ref a_t_way, .int t_went, .int t_fell]))] sz) 0 0 (va_A [(a_t, .inr (12, [.ref a_t_now, .ref a_t_tried, .ref a_t_kept, .int t_undos, .ref a_t_saved, .int t_isSaved, .ref a_t_line, .int t_lined, .ref a_t_text, .int t_length, .int t_at, .int t_order, .ref a_t_told, .int t_fault, .int t_reason, .int t_detail, .int t_index, .int t_answer, .int t_thrown, .ref a_t_way, .int t_went, .int t_fell]))] sz) := by
  refine Met.ofW (cc := cX8_faultPosition) (maxL := 1) (ret := (some .int)) (by decide) rfl ?_
  intro p e s m args below meth c s₁ B hml hv
  obtain ⟨hav, hsz, hP, hK, hD0⟩ := hv
  have hx := B.exec
  have hb := B.bytes
  have hr := B.returns
  have hts := atoms_spec (ws := wsX8_faultPosition) B.pre
  have hown : s.vm.findClass RX8 = some m.cls := findClass_of_methodNamed B.named
  have hlocks := B.notSynchronized
  subst hsz
  have hD := hD0.self (sz := s.heap.size)
  obtain ⟨A, hAe⟩ : ∃ A : Nat → Prop, va_A [(a_t, .inr (12, [.ref a_t_now, .ref a_t_tried, .ref a_t_kept, .int t_undos, .ref a_t_saved, .int t_isSaved, .ref a_t_line, .int t_lined, .ref a_t_text, .int t_length, .int t_at, .int t_order, .ref a_t_told, .int t_fault, .int t_reason, .int t_detail, .int t_index, .int t_answer, .int t_thrown, .ref a_t_way, .int t_went, .int t_fell]))] s.heap.size = A := ⟨_, rfl⟩
  rw [hAe] at hD
  have hA : ∀ q, s.heap.size ≤ q → A q := fun q h => by rw [← hAe]; exact Or.inr h
  have hS : va_S A s.heap s.heap [] := va_S.rf
  refine W_q (R1 := (rmq 0 0)) rfl (fun Q0 hQ0 => ?_)
  unfold F_X8_faultPosition at hF
  refine W_entry hav (Nat.le_of_ble_eq_true rfl) (fun ls hl => ?_)
  have hl : lv_has ls 1 [(0, .ref a_t)] := hl
  refine lv_aload_n hx hb dX8_faultPosition_0 rfl (lv_at hl 0 rfl) ?_
  refine lv_iconst (v := 0) hx hb dX8_faultPosition_1 (by decide) ?_
  refine va_put (D := D) (ci := 12) (v := .int (0 : Int32)) (ty := .int) (C := RX8) (T := TX8) (N := 22) hx hb hts iX8_faultPosition_X8 tyX8 tyX8_ok nmX8 hown hK hP hD hS 0 rfl rfl 18 (by decide) (hts (.fieldLink RX8 39 "SkipArchiveModel" "thrown" "I") (List.mem_of_getElem? (i := 1) rfl)) (fun _ h9 => h9) rfl (by decide +kernel) rfl rfl (Nat.le_of_ble_eq_true rfl) dX8_faultPosition_2 (fun H locs hP hD hS => ?_)
  have hP : va_P D vwCl [(a_t, .inr (12, [.ref a_t_now, .ref a_t_tried, .ref a_t_kept, .int t_undos, .ref a_t_saved, .int t_isSaved, .ref a_t_line, .int t_lined, .ref a_t_text, .int t_length, .int t_at, .int t_order, .ref a_t_told, .int t_fault, .int t_reason, .int t_detail, .int t_index, .int t_answer, .int (0 : Int32), .ref a_t_way, .int t_went, .int t_fell]))] H := hP
  have hD : va_D A [(a_t, .inr (12, [.ref a_t_now, .ref a_t_tried, .ref a_t_kept, .int t_undos, .ref a_t_saved, .int t_isSaved, .ref a_t_line, .int t_lined, .ref a_t_text, .int t_length, .int t_at, .int t_order, .ref a_t_told, .int t_fault, .int t_reason, .int t_detail, .int t_index, .int t_answer, .int (0 : Int32), .ref a_t_way, .int t_went, .int t_fell]))] := hD
  refine lv_aload_n hx hb dX8_faultPosition_5 rfl (lv_at hl 0 rfl) ?_
  refine va_get (D := D) (ci := 12) (v := .int t_fault) (C := RX8) (T := TX8) (N := 22) hx hb hts iX8_faultPosition_X8 hown hK hP 0 rfl rfl 13 (by decide) (hts (.fieldLink RX8 32 "SkipArchiveModel" "fault" "I") (List.mem_of_getElem? (i := 2) rfl)) (fun _ h9 => h9) rfl dX8_faultPosition_6 ?_
  obtain ⟨e0_9, e1_9⟩ := inj2 hF
  rw [← e0_9, ← e1_9] at hQ0
  rw [hQ0]
  exact ret_i hx hb hr hlocks hAe hK hP hD hS [0] rfl rfl dX8_faultPosition_9
def F_X8_reason (fl : Nat) (t_reason : Int32) (t_detail : Int32) (t_index : Int32) (t_thrown : Int32) (p1 : Int32) : Option (Int32 × Int32) := bn (F_X8_in fl p1 (0 : Int32) (2 : Int32)) fun r_8 => if r_8 = 0 then (bn2 (F_X8_raises fl (0 : Int32) (1 : Int32)) fun r_16 t_thrown_16 => some (r_16, t_thrown_16)) else (if t_reason = 0 then (bn2 (F_X8_raises fl (0 : Int32) (2 : Int32)) fun r_29 t_thrown_29 => some (r_29, t_thrown_29)) else (if p1 = 0 then (some (t_reason, (0 : Int32))) else (if p1 = (1 : Int32) then (some (t_detail, (0 : Int32))) else (some (t_index, (0 : Int32))))))
theorem iX8_reason_X8 : ∀ w ∈ u_ws RX8 TX8 22, w ∈ wsX8_reason := fun w h => List.mem_cons_of_mem _ (List.mem_append_right _ h)
set_option maxHeartbeats 4000000 in
set_option maxRecDepth 100000 in
theorem c_X8_reason (l : Launch) (D : va_G) (y : Nat → ClassId) (fl : Nat) (sz : Nat) (a_t : Nat) (a_t_now : Nat) (a_t_tried : Nat) (a_t_kept : Nat) (a_t_saved : Nat) (a_t_line : Nat) (a_t_text : Nat) (a_t_told : Nat) (a_t_way : Nat) (t_undos : Int32) (t_isSaved : Int32) (t_lined : Int32) (t_length : Int32) (t_at : Int32) (t_order : Int32) (t_fault : Int32) (t_reason : Int32) (t_detail : Int32) (t_index : Int32) (t_answer : Int32) (t_thrown : Int32) (t_went : Int32) (t_fell : Int32) (p1 : Int32) (r : Int32) (t_thrown' : Int32) (hF : F_X8_reason fl t_reason t_detail t_index t_thrown p1 = some (r, t_thrown')) : Met l yX8_reason wsX8_reason (rmq 1 22) (wrP D y [(a_t, .inr (12, [.ref a_t_now, .ref a_t_tried, .ref a_t_kept, .int t_undos, .ref a_t_saved, .int t_isSaved, .ref a_t_line, .int t_lined, .ref a_t_text, .int t_length, .int t_at, .int t_order, .ref a_t_told, .int t_fault, .int t_reason, .int t_detail, .int t_index, .int t_answer, .int t_thrown, .ref a_t_way, .int t_went, .int t_fell]))] sz [.ref a_t, .int p1]) (wQi D y r [(a_t, .inr (12, [.ref a_t_now, .ref a_t_tried, .ref a_t_kept, .int t_undos, .ref a_t_saved, .int t_isSaved, .ref a_t_line, .int t_lined, .ref a_t_text, .int t_length, .int t_at, .int t_order, .ref a_t_told, .int t_fault, .int t_reason, .int t_detail, .int t_index, .int t_answer, .int t_thrown', .ref a_t_way, .int t_went, .int t_fell]))] [(a_t, .inr (12, [.ref a_t_now, .ref a_t_tried, .ref a_t_kept, .int t_undos, .ref a_t_saved, .int t_isSaved, .ref a_t_line, .int t_lined, .ref a_t_text, .int t_length, .int t_at, .int t_order, .ref a_t_told, .int t_fault, .int t_reason, .int t_detail, .int t_index, .int t_answer, .int t_thrown, .ref a_t_way, .int t_went, .int t_fell]))] sz) 0 0 (va_A [(a_t, .inr (12, [.ref a_t_now, .ref a_t_tried, .ref a_t_kept, .int t_undos, .ref a_t_saved, .int t_isSaved, .ref a_t_line, .int t_lined, .ref a_t_text, .int t_length, .int t_at, .int t_order, .ref a_t_told, .int t_fault, .int t_reason, .int t_detail, .int t_index, .int t_answer, .int t_thrown, .ref a_t_way, .int t_went, .int t_fell]))] sz) := by
  refine Met.ofW (cc := cX8_reason) (maxL := 2) (ret := (some .int)) (by decide) rfl ?_
  intro p e s m args below meth c s₁ B hml hv
  obtain ⟨hav, hsz, hP, hK, hD0⟩ := hv
  have hx := B.exec
  have hb := B.bytes
  have hr := B.returns
  have hts := atoms_spec (ws := wsX8_reason) B.pre
  have hown : s.vm.findClass RX8 = some m.cls := findClass_of_methodNamed B.named
  have hlocks := B.notSynchronized
  subst hsz
  have hD := hD0.self (sz := s.heap.size)
  obtain ⟨A, hAe⟩ : ∃ A : Nat → Prop, va_A [(a_t, .inr (12, [.ref a_t_now, .ref a_t_tried, .ref a_t_kept, .int t_undos, .ref a_t_saved, .int t_isSaved, .ref a_t_line, .int t_lined, .ref a_t_text, .int t_length, .int t_at, .int t_order, .ref a_t_told, .int t_fault, .int t_reason, .int t_detail, .int t_index, .int t_answer, .int t_thrown, .ref a_t_way, .int t_went, .int t_fell]))] s.heap.size = A := ⟨_, rfl⟩
  rw [hAe] at hD
  have hA : ∀ q, s.heap.size ≤ q → A q := fun q h => by rw [← hAe]; exact Or.inr h
  have hS : va_S A s.heap s.heap [] := va_S.rf
  refine W_q (R1 := (rmq 1 22)) rfl (fun Q0 hQ0 => ?_)
  unfold F_X8_reason at hF
  refine W_entry hav (Nat.le_of_ble_eq_true rfl) (fun ls hl => ?_)
  have hl : lv_has ls 2 [(0, .ref a_t), (1, .int p1)] := hl
  refine lv_aload_n hx hb dX8_reason_0 rfl (lv_at hl 0 rfl) ?_
  refine lv_iconst (v := 0) hx hb dX8_reason_1 (by decide) ?_
  refine va_put (D := D) (ci := 12) (v := .int (0 : Int32)) (ty := .int) (C := RX8) (T := TX8) (N := 22) hx hb hts iX8_reason_X8 tyX8 tyX8_ok nmX8 hown hK hP hD hS 0 rfl rfl 18 (by decide) (hts (.fieldLink RX8 39 "SkipArchiveModel" "thrown" "I") (List.mem_of_getElem? (i := 1) rfl)) (fun _ h9 => h9) rfl (by decide +kernel) rfl rfl (Nat.le_of_ble_eq_true rfl) dX8_reason_2 (fun H locs hP hD hS => ?_)
  have hP : va_P D vwCl [(a_t, .inr (12, [.ref a_t_now, .ref a_t_tried, .ref a_t_kept, .int t_undos, .ref a_t_saved, .int t_isSaved, .ref a_t_line, .int t_lined, .ref a_t_text, .int t_length, .int t_at, .int t_order, .ref a_t_told, .int t_fault, .int t_reason, .int t_detail, .int t_index, .int t_answer, .int (0 : Int32), .ref a_t_way, .int t_went, .int t_fell]))] H := hP
  have hD : va_D A [(a_t, .inr (12, [.ref a_t_now, .ref a_t_tried, .ref a_t_kept, .int t_undos, .ref a_t_saved, .int t_isSaved, .ref a_t_line, .int t_lined, .ref a_t_text, .int t_length, .int t_at, .int t_order, .ref a_t_told, .int t_fault, .int t_reason, .int t_detail, .int t_index, .int t_answer, .int (0 : Int32), .ref a_t_way, .int t_went, .int t_fell]))] := hD
  refine lv_iload_n hx hb dX8_reason_5 rfl (lv_at hl 1 rfl) ?_
  refine lv_iconst (v := 0) hx hb dX8_reason_6 (by decide) ?_
  refine lv_iconst (v := 2) hx hb dX8_reason_7 (by decide) ?_
  obtain ⟨r_8, hq_8, hF⟩ := bn_i hF
  refine cr_S (As := [.int p1, .int (0 : Int32), .int (2 : Int32)]) (rest := []) ⟨hx, hb, hml, hown, hts⟩ (c_X8_in l D y fl p1 (0 : Int32) (2 : Int32) r_8 hq_8) (va_cwS 3 hts gX8_reason_X8_in rfl rfl rfl (by decide +kernel) ⟨Nat.le_of_ble_eq_true rfl, Nat.le_of_ble_eq_true rfl⟩) hK hP [] rfl rfl hl.1 rfl (Nat.le_of_ble_eq_true rfl) dX8_reason_8 ⟨Nat.le_of_ble_eq_true rfl, Nat.le_of_ble_eq_true rfl⟩ ?_
  refine lv_if_ne (tgt := 20) hx hb dX8_reason_11 (by decide) (fun c_11 => ?_) (fun c_11 => ?_)
  · have hF := iff_ hF c_11
    refine lv_aload_n hx hb dX8_reason_20 rfl (lv_at hl 0 rfl) ?_
    refine va_get (D := D) (ci := 12) (v := .int t_reason) (C := RX8) (T := TX8) (N := 22) hx hb hts iX8_reason_X8 hown hK hP 0 rfl rfl 14 (by decide) (hts (.fieldLink RX8 48 "SkipArchiveModel" "reason" "I") (List.mem_of_getElem? (i := 2) rfl)) (fun _ h9 => h9) rfl dX8_reason_21 ?_
    refine lv_if_ne (tgt := 33) hx hb dX8_reason_24 (by decide) (fun c_24 => ?_) (fun c_24 => ?_)
    · have hF := iff_ hF c_24
      refine lv_iload_n hx hb dX8_reason_33 rfl (lv_at hl 1 rfl) ?_
      refine lv_if_ne (tgt := 44) hx hb dX8_reason_34 (by decide) (fun c_34 => ?_) (fun c_34 => ?_)
      · have hF := iff_ hF c_34
        refine lv_iload_n hx hb dX8_reason_44 rfl (lv_at hl 1 rfl) ?_
        refine lv_iconst (v := 1) hx hb dX8_reason_45 (by decide) ?_
        refine lv_icmp_ne (tgt := 56) hx hb dX8_reason_46 (by decide) (fun c_46 => ?_) (fun c_46 => ?_)
        · have hF := iff_ hF c_46
          refine lv_aload_n hx hb dX8_reason_56 rfl (lv_at hl 0 rfl) ?_
          refine va_get (D := D) (ci := 12) (v := .int t_index) (C := RX8) (T := TX8) (N := 22) hx hb hts iX8_reason_X8 hown hK hP 0 rfl rfl 16 (by decide) (hts (.fieldLink RX8 54 "SkipArchiveModel" "index" "I") (List.mem_of_getElem? (i := 4) rfl)) (fun _ h9 => h9) rfl dX8_reason_57 ?_
          obtain ⟨e0_60, e1_60⟩ := inj2 hF
          rw [← e0_60, ← e1_60] at hQ0
          rw [hQ0]
          exact ret_i hx hb hr hlocks hAe hK hP hD hS [0] rfl rfl dX8_reason_60
        · have hF := ift hF c_46
          refine lv_aload_n hx hb dX8_reason_49 rfl (lv_at hl 0 rfl) ?_
          refine va_get (D := D) (ci := 12) (v := .int t_detail) (C := RX8) (T := TX8) (N := 22) hx hb hts iX8_reason_X8 hown hK hP 0 rfl rfl 15 (by decide) (hts (.fieldLink RX8 51 "SkipArchiveModel" "detail" "I") (List.mem_of_getElem? (i := 3) rfl)) (fun _ h9 => h9) rfl dX8_reason_50 ?_
          refine lv_goto (tgt := 60) hx hb dX8_reason_53 (by decide) ?_
          obtain ⟨e0_60, e1_60⟩ := inj2 hF
          rw [← e0_60, ← e1_60] at hQ0
          rw [hQ0]
          exact ret_i hx hb hr hlocks hAe hK hP hD hS [0] rfl rfl dX8_reason_60
      · have hF := ift hF c_34
        refine lv_aload_n hx hb dX8_reason_37 rfl (lv_at hl 0 rfl) ?_
        refine va_get (D := D) (ci := 12) (v := .int t_reason) (C := RX8) (T := TX8) (N := 22) hx hb hts iX8_reason_X8 hown hK hP 0 rfl rfl 14 (by decide) (hts (.fieldLink RX8 48 "SkipArchiveModel" "reason" "I") (List.mem_of_getElem? (i := 2) rfl)) (fun _ h9 => h9) rfl dX8_reason_38 ?_
        refine lv_goto (tgt := 60) hx hb dX8_reason_41 (by decide) ?_
        obtain ⟨e0_60, e1_60⟩ := inj2 hF
        rw [← e0_60, ← e1_60] at hQ0
        rw [hQ0]
        exact ret_i hx hb hr hlocks hAe hK hP hD hS [0] rfl rfl dX8_reason_60
    · have hF := ift hF c_24
      refine lv_aload_n hx hb dX8_reason_27 rfl (lv_at hl 0 rfl) ?_
      refine lv_iconst (v := 2) hx hb dX8_reason_28 (by decide) ?_
      obtain ⟨r_29, t_thrown_29, hq_29, hF⟩ := bn2_i hF
      refine cm_Vi (As := [.int (2 : Int32)]) (rest := []) (wr := []) ⟨hx, hb, hml, hown, hts⟩ (c_X8_raises l D y fl H.size a_t a_t_now a_t_tried a_t_kept a_t_saved a_t_line a_t_text a_t_told a_t_way t_undos t_isSaved t_lined t_length t_at t_order t_fault t_reason t_detail t_index t_answer (0 : Int32) t_went t_fell (2 : Int32) r_29 t_thrown_29 hq_29) (cwV 1 hts gX8_reason_X8_raises rfl rfl rfl (by decide +kernel) ⟨Nat.le_of_ble_eq_true rfl, Nat.le_of_ble_eq_true rfl⟩) hK hP hD hS hA [0] [] rfl rfl rfl rfl (by decide) rfl rfl rfl hl.1 rfl (Nat.le_of_ble_eq_true rfl) dX8_reason_29 ⟨Nat.le_of_ble_eq_true rfl, Nat.le_of_ble_eq_true rfl⟩ (fun H locs hP hD hS => ?_)
      have hP : va_P D vwCl [(a_t, .inr (12, [.ref a_t_now, .ref a_t_tried, .ref a_t_kept, .int t_undos, .ref a_t_saved, .int t_isSaved, .ref a_t_line, .int t_lined, .ref a_t_text, .int t_length, .int t_at, .int t_order, .ref a_t_told, .int t_fault, .int t_reason, .int t_detail, .int t_index, .int t_answer, .int t_thrown_29, .ref a_t_way, .int t_went, .int t_fell]))] H := hP
      have hD : va_D A [(a_t, .inr (12, [.ref a_t_now, .ref a_t_tried, .ref a_t_kept, .int t_undos, .ref a_t_saved, .int t_isSaved, .ref a_t_line, .int t_lined, .ref a_t_text, .int t_length, .int t_at, .int t_order, .ref a_t_told, .int t_fault, .int t_reason, .int t_detail, .int t_index, .int t_answer, .int t_thrown_29, .ref a_t_way, .int t_went, .int t_fell]))] := hD
      obtain ⟨e0_32, e1_32⟩ := inj2 hF
      rw [← e0_32, ← e1_32] at hQ0
      rw [hQ0]
      exact ret_i hx hb hr hlocks hAe hK hP hD hS [0] rfl rfl dX8_reason_32
  · have hF := ift hF c_11
    refine lv_aload_n hx hb dX8_reason_14 rfl (lv_at hl 0 rfl) ?_
    refine lv_iconst (v := 1) hx hb dX8_reason_15 (by decide) ?_
    obtain ⟨r_16, t_thrown_16, hq_16, hF⟩ := bn2_i hF
    refine cm_Vi (As := [.int (1 : Int32)]) (rest := []) (wr := []) ⟨hx, hb, hml, hown, hts⟩ (c_X8_raises l D y fl H.size a_t a_t_now a_t_tried a_t_kept a_t_saved a_t_line a_t_text a_t_told a_t_way t_undos t_isSaved t_lined t_length t_at t_order t_fault t_reason t_detail t_index t_answer (0 : Int32) t_went t_fell (1 : Int32) r_16 t_thrown_16 hq_16) (cwV 1 hts gX8_reason_X8_raises rfl rfl rfl (by decide +kernel) ⟨Nat.le_of_ble_eq_true rfl, Nat.le_of_ble_eq_true rfl⟩) hK hP hD hS hA [0] [] rfl rfl rfl rfl (by decide) rfl rfl rfl hl.1 rfl (Nat.le_of_ble_eq_true rfl) dX8_reason_16 ⟨Nat.le_of_ble_eq_true rfl, Nat.le_of_ble_eq_true rfl⟩ (fun H locs hP hD hS => ?_)
    have hP : va_P D vwCl [(a_t, .inr (12, [.ref a_t_now, .ref a_t_tried, .ref a_t_kept, .int t_undos, .ref a_t_saved, .int t_isSaved, .ref a_t_line, .int t_lined, .ref a_t_text, .int t_length, .int t_at, .int t_order, .ref a_t_told, .int t_fault, .int t_reason, .int t_detail, .int t_index, .int t_answer, .int t_thrown_16, .ref a_t_way, .int t_went, .int t_fell]))] H := hP
    have hD : va_D A [(a_t, .inr (12, [.ref a_t_now, .ref a_t_tried, .ref a_t_kept, .int t_undos, .ref a_t_saved, .int t_isSaved, .ref a_t_line, .int t_lined, .ref a_t_text, .int t_length, .int t_at, .int t_order, .ref a_t_told, .int t_fault, .int t_reason, .int t_detail, .int t_index, .int t_answer, .int t_thrown_16, .ref a_t_way, .int t_went, .int t_fell]))] := hD
    obtain ⟨e0_19, e1_19⟩ := inj2 hF
    rw [← e0_19, ← e1_19] at hQ0
    rw [hQ0]
    exact ret_i hx hb hr hlocks hAe hK hP hD hS [0] rfl rfl dX8_reason_19
def F_X8_writesNumber0 (fl : Nat) (t_lined : Int32) (t_line : Nat → Int32) (p1 : Int32) : Option (Int32 × (Nat → Int32)) := if p1 ≤ (9 : Int32) then (gi t_lined 120 (some (t_lined + (1 : Int32), upd t_line t_lined.toNatClampNeg (vp_nar .char ((((48 : Int32) + (p1 - p1 / (10 : Int32) * (10 : Int32))).toUInt32 % 65536).toInt32))))) else (none)
theorem iX8_writesNumber0_X8 : ∀ w ∈ u_ws RX8 TX8 22, w ∈ wsX8_writesNumber := fun w h => List.mem_cons_of_mem _ (List.mem_append_left _ (List.mem_append_right _ h))
set_option maxHeartbeats 4000000 in
set_option maxRecDepth 100000 in
theorem c_X8_writesNumber0 (l : Launch) (D : va_G) (y : Nat → ClassId) (fl : Nat) (sz : Nat) (a_t : Nat) (a_t_now : Nat) (a_t_tried : Nat) (a_t_kept : Nat) (a_t_saved : Nat) (a_t_line : Nat) (a_t_text : Nat) (a_t_told : Nat) (a_t_way : Nat) (t_undos : Int32) (t_isSaved : Int32) (t_lined : Int32) (t_length : Int32) (t_at : Int32) (t_order : Int32) (t_fault : Int32) (t_reason : Int32) (t_detail : Int32) (t_index : Int32) (t_answer : Int32) (t_thrown : Int32) (t_went : Int32) (t_fell : Int32) (t_line : Nat → Int32) (p1 : Int32) (t_lined' : Int32) (t_line' : Nat → Int32) (hF : F_X8_writesNumber0 fl t_lined t_line p1 = some (t_lined', t_line')) : Met l yX8_writesNumber wsX8_writesNumber (rmq 0 0) (wrP D y [(a_t, .inr (12, [.ref a_t_now, .ref a_t_tried, .ref a_t_kept, .int t_undos, .ref a_t_saved, .int t_isSaved, .ref a_t_line, .int t_lined, .ref a_t_text, .int t_length, .int t_at, .int t_order, .ref a_t_told, .int t_fault, .int t_reason, .int t_detail, .int t_index, .int t_answer, .int t_thrown, .ref a_t_way, .int t_went, .int t_fell])), (a_t_line, .inl (y 1, 120, .inl t_line))] sz [.ref a_t, .int p1]) (wQv D y [(a_t, .inr (12, [.ref a_t_now, .ref a_t_tried, .ref a_t_kept, .int t_undos, .ref a_t_saved, .int t_isSaved, .ref a_t_line, .int t_lined', .ref a_t_text, .int t_length, .int t_at, .int t_order, .ref a_t_told, .int t_fault, .int t_reason, .int t_detail, .int t_index, .int t_answer, .int t_thrown, .ref a_t_way, .int t_went, .int t_fell])), (a_t_line, .inl (y 1, 120, .inl t_line'))] [(a_t, .inr (12, [.ref a_t_now, .ref a_t_tried, .ref a_t_kept, .int t_undos, .ref a_t_saved, .int t_isSaved, .ref a_t_line, .int t_lined, .ref a_t_text, .int t_length, .int t_at, .int t_order, .ref a_t_told, .int t_fault, .int t_reason, .int t_detail, .int t_index, .int t_answer, .int t_thrown, .ref a_t_way, .int t_went, .int t_fell])), (a_t_line, .inl (y 1, 120, .inl t_line))] sz) 0 0 (va_A [(a_t, .inr (12, [.ref a_t_now, .ref a_t_tried, .ref a_t_kept, .int t_undos, .ref a_t_saved, .int t_isSaved, .ref a_t_line, .int t_lined, .ref a_t_text, .int t_length, .int t_at, .int t_order, .ref a_t_told, .int t_fault, .int t_reason, .int t_detail, .int t_index, .int t_answer, .int t_thrown, .ref a_t_way, .int t_went, .int t_fell])), (a_t_line, .inl (y 1, 120, .inl t_line))] sz) := by
  refine Met.ofW (cc := cX8_writesNumber) (maxL := 2) (ret := none) (by decide) rfl ?_
  intro p e s m args below meth c s₁ B hml hv
  obtain ⟨hav, hsz, hP, hK, hD0⟩ := hv
  have hx := B.exec
  have hb := B.bytes
  have hr := B.returns
  have hts := atoms_spec (ws := wsX8_writesNumber) B.pre
  have hown : s.vm.findClass RX8 = some m.cls := findClass_of_methodNamed B.named
  have hlocks := B.notSynchronized
  subst hsz
  have hD := hD0.self (sz := s.heap.size)
  obtain ⟨A, hAe⟩ : ∃ A : Nat → Prop, va_A [(a_t, .inr (12, [.ref a_t_now, .ref a_t_tried, .ref a_t_kept, .int t_undos, .ref a_t_saved, .int t_isSaved, .ref a_t_line, .int t_lined, .ref a_t_text, .int t_length, .int t_at, .int t_order, .ref a_t_told, .int t_fault, .int t_reason, .int t_detail, .int t_index, .int t_answer, .int t_thrown, .ref a_t_way, .int t_went, .int t_fell])), (a_t_line, .inl (y 1, 120, .inl t_line))] s.heap.size = A := ⟨_, rfl⟩
  rw [hAe] at hD
  have hA : ∀ q, s.heap.size ≤ q → A q := fun q h => by rw [← hAe]; exact Or.inr h
  have hS : va_S A s.heap s.heap [] := va_S.rf
  refine W_q (R1 := (rmq 0 0)) rfl (fun Q0 hQ0 => ?_)
  unfold F_X8_writesNumber0 at hF
  refine W_entry hav (Nat.le_of_ble_eq_true rfl) (fun ls hl => ?_)
  have hl : lv_has ls 2 [(0, .ref a_t), (1, .int p1)] := hl
  refine lv_iload_n hx hb dX8_writesNumber_0 rfl (lv_at hl 1 rfl) ?_
  refine lv_bipush (v := 9) hx hb dX8_writesNumber_1 (by decide) ?_
  refine lv_icmp_le (tgt := 14) hx hb dX8_writesNumber_3 (by decide) (fun c_3 => ?_) (fun c_3 => ?_)
  · have hF := ift hF c_3
    refine lv_aload_n hx hb dX8_writesNumber_14 rfl (lv_at hl 0 rfl) ?_
    refine va_get (D := D) (ci := 12) (v := .ref a_t_line) (C := RX8) (T := TX8) (N := 22) hx hb hts iX8_writesNumber0_X8 hown hK hP 0 rfl rfl 6 (by decide) (hts (.fieldLink RX8 22 "SkipArchiveModel" "line" "[C") (List.mem_of_getElem? (i := 1) rfl)) (fun _ h9 => h9) rfl dX8_writesNumber_15 ?_
    refine lv_aload_n hx hb dX8_writesNumber_18 rfl (lv_at hl 0 rfl) ?_
    refine lv_dup hx hb dX8_writesNumber_19 rfl ?_
    refine va_get (D := D) (ci := 12) (v := .int t_lined) (C := RX8) (T := TX8) (N := 22) hx hb hts iX8_writesNumber0_X8 hown hK hP 0 rfl rfl 7 (by decide) (hts (.fieldLink RX8 197 "SkipArchiveModel" "lined" "I") (List.mem_of_getElem? (i := 2) rfl)) (fun _ h9 => h9) rfl dX8_writesNumber_20 ?_
    refine lv_dup_x1 hx hb dX8_writesNumber_23 rfl rfl ?_
    refine lv_iconst (v := 1) hx hb dX8_writesNumber_24 (by decide) ?_
    refine lv_iadd hx hb dX8_writesNumber_25 ?_
    refine va_put (D := D) (ci := 12) (v := .int (t_lined + (1 : Int32))) (ty := .int) (C := RX8) (T := TX8) (N := 22) hx hb hts iX8_writesNumber0_X8 tyX8 tyX8_ok nmX8 hown hK hP hD hS 0 rfl rfl 7 (by decide) (hts (.fieldLink RX8 197 "SkipArchiveModel" "lined" "I") (List.mem_of_getElem? (i := 2) rfl)) (fun _ h9 => h9) rfl (by decide +kernel) rfl rfl (Nat.le_of_ble_eq_true rfl) dX8_writesNumber_26 (fun H locs hP hD hS => ?_)
    have hP : va_P D vwCl [(a_t, .inr (12, [.ref a_t_now, .ref a_t_tried, .ref a_t_kept, .int t_undos, .ref a_t_saved, .int t_isSaved, .ref a_t_line, .int (t_lined + (1 : Int32)), .ref a_t_text, .int t_length, .int t_at, .int t_order, .ref a_t_told, .int t_fault, .int t_reason, .int t_detail, .int t_index, .int t_answer, .int t_thrown, .ref a_t_way, .int t_went, .int t_fell])), (a_t_line, .inl (y 1, 120, .inl t_line))] H := hP
    have hD : va_D A [(a_t, .inr (12, [.ref a_t_now, .ref a_t_tried, .ref a_t_kept, .int t_undos, .ref a_t_saved, .int t_isSaved, .ref a_t_line, .int (t_lined + (1 : Int32)), .ref a_t_text, .int t_length, .int t_at, .int t_order, .ref a_t_told, .int t_fault, .int t_reason, .int t_detail, .int t_index, .int t_answer, .int t_thrown, .ref a_t_way, .int t_went, .int t_fell])), (a_t_line, .inl (y 1, 120, .inl t_line))] := hD
    refine lv_bipush (v := 48) hx hb dX8_writesNumber_29 (by decide) ?_
    refine lv_iload_n hx hb dX8_writesNumber_31 rfl (lv_at hl 1 rfl) ?_
    refine lv_bipush (v := 10) hx hb dX8_writesNumber_32 (by decide) ?_
    refine lv_irem hx hb dX8_writesNumber_34 (by decide) ?_
    refine lv_iadd hx hb dX8_writesNumber_35 ?_
    refine lv_i2c hx hb dX8_writesNumber_36 rfl ?_
    obtain ⟨g_37, hF⟩ := gi_i hF
    refine va_cast hx hb hK hP hD hS 1 1 rfl rfl g_37 dX8_writesNumber_37 (fun H locs hP hD hS => ?_)
    have hP : va_P D vwCl [(a_t, .inr (12, [.ref a_t_now, .ref a_t_tried, .ref a_t_kept, .int t_undos, .ref a_t_saved, .int t_isSaved, .ref a_t_line, .int (t_lined + (1 : Int32)), .ref a_t_text, .int t_length, .int t_at, .int t_order, .ref a_t_told, .int t_fault, .int t_reason, .int t_detail, .int t_index, .int t_answer, .int t_thrown, .ref a_t_way, .int t_went, .int t_fell])), (a_t_line, .inl (y 1, 120, .inl (upd t_line t_lined.toNatClampNeg (vp_nar .char ((((48 : Int32) + (p1 - p1 / (10 : Int32) * (10 : Int32))).toUInt32 % 65536).toInt32)))))] H := hP
    have hD : va_D A [(a_t, .inr (12, [.ref a_t_now, .ref a_t_tried, .ref a_t_kept, .int t_undos, .ref a_t_saved, .int t_isSaved, .ref a_t_line, .int (t_lined + (1 : Int32)), .ref a_t_text, .int t_length, .int t_at, .int t_order, .ref a_t_told, .int t_fault, .int t_reason, .int t_detail, .int t_index, .int t_answer, .int t_thrown, .ref a_t_way, .int t_went, .int t_fell])), (a_t_line, .inl (y 1, 120, .inl (upd t_line t_lined.toNatClampNeg (vp_nar .char ((((48 : Int32) + (p1 - p1 / (10 : Int32) * (10 : Int32))).toUInt32 % 65536).toInt32)))))] := hD
    obtain ⟨e0_38, e1_38⟩ := inj2 hF
    rw [← e0_38, ← e1_38] at hQ0
    rw [hQ0]
    exact ret_v hx hb hr hlocks hAe hK hP hD hS [0, 1] rfl rfl dX8_writesNumber_38
  · have hF := iff_ hF c_3
    refine lv_aload_n hx hb dX8_writesNumber_6 rfl (lv_at hl 0 rfl) ?_
    refine lv_iload_n hx hb dX8_writesNumber_7 rfl (lv_at hl 1 rfl) ?_
    refine lv_bipush (v := 10) hx hb dX8_writesNumber_8 (by decide) ?_
    refine lv_idiv hx hb dX8_writesNumber_10 (by decide) ?_
    cases hF
def F_X8_writesNumber1 (fl : Nat) (t_lined : Int32) (t_line : Nat → Int32) (p1 : Int32) : Option (Int32 × (Nat → Int32)) := if p1 ≤ (9 : Int32) then (gi t_lined 120 (some (t_lined + (1 : Int32), upd t_line t_lined.toNatClampNeg (vp_nar .char ((((48 : Int32) + (p1 - p1 / (10 : Int32) * (10 : Int32))).toUInt32 % 65536).toInt32))))) else (bn2 (F_X8_writesNumber0 fl t_lined t_line (p1 / (10 : Int32))) fun t_lined_11 t_line_11 => gi t_lined_11 120 (some (t_lined_11 + (1 : Int32), upd t_line_11 t_lined_11.toNatClampNeg (vp_nar .char ((((48 : Int32) + (p1 - p1 / (10 : Int32) * (10 : Int32))).toUInt32 % 65536).toInt32)))))
theorem iX8_writesNumber1_X8 : ∀ w ∈ u_ws RX8 TX8 22, w ∈ wsX8_writesNumber := fun w h => List.mem_cons_of_mem _ (List.mem_append_left _ (List.mem_append_right _ h))
set_option maxHeartbeats 4000000 in
set_option maxRecDepth 100000 in
theorem c_X8_writesNumber1 (l : Launch) (D : va_G) (y : Nat → ClassId) (fl : Nat) (sz : Nat) (a_t : Nat) (a_t_now : Nat) (a_t_tried : Nat) (a_t_kept : Nat) (a_t_saved : Nat) (a_t_line : Nat) (a_t_text : Nat) (a_t_told : Nat) (a_t_way : Nat) (t_undos : Int32) (t_isSaved : Int32) (t_lined : Int32) (t_length : Int32) (t_at : Int32) (t_order : Int32) (t_fault : Int32) (t_reason : Int32) (t_detail : Int32) (t_index : Int32) (t_answer : Int32) (t_thrown : Int32) (t_went : Int32) (t_fell : Int32) (t_line : Nat → Int32) (p1 : Int32) (t_lined' : Int32) (t_line' : Nat → Int32) (hF : F_X8_writesNumber1 fl t_lined t_line p1 = some (t_lined', t_line')) : Met l yX8_writesNumber wsX8_writesNumber (rmq 1 21) (wrP D y [(a_t, .inr (12, [.ref a_t_now, .ref a_t_tried, .ref a_t_kept, .int t_undos, .ref a_t_saved, .int t_isSaved, .ref a_t_line, .int t_lined, .ref a_t_text, .int t_length, .int t_at, .int t_order, .ref a_t_told, .int t_fault, .int t_reason, .int t_detail, .int t_index, .int t_answer, .int t_thrown, .ref a_t_way, .int t_went, .int t_fell])), (a_t_line, .inl (y 1, 120, .inl t_line))] sz [.ref a_t, .int p1]) (wQv D y [(a_t, .inr (12, [.ref a_t_now, .ref a_t_tried, .ref a_t_kept, .int t_undos, .ref a_t_saved, .int t_isSaved, .ref a_t_line, .int t_lined', .ref a_t_text, .int t_length, .int t_at, .int t_order, .ref a_t_told, .int t_fault, .int t_reason, .int t_detail, .int t_index, .int t_answer, .int t_thrown, .ref a_t_way, .int t_went, .int t_fell])), (a_t_line, .inl (y 1, 120, .inl t_line'))] [(a_t, .inr (12, [.ref a_t_now, .ref a_t_tried, .ref a_t_kept, .int t_undos, .ref a_t_saved, .int t_isSaved, .ref a_t_line, .int t_lined, .ref a_t_text, .int t_length, .int t_at, .int t_order, .ref a_t_told, .int t_fault, .int t_reason, .int t_detail, .int t_index, .int t_answer, .int t_thrown, .ref a_t_way, .int t_went, .int t_fell])), (a_t_line, .inl (y 1, 120, .inl t_line))] sz) 0 0 (va_A [(a_t, .inr (12, [.ref a_t_now, .ref a_t_tried, .ref a_t_kept, .int t_undos, .ref a_t_saved, .int t_isSaved, .ref a_t_line, .int t_lined, .ref a_t_text, .int t_length, .int t_at, .int t_order, .ref a_t_told, .int t_fault, .int t_reason, .int t_detail, .int t_index, .int t_answer, .int t_thrown, .ref a_t_way, .int t_went, .int t_fell])), (a_t_line, .inl (y 1, 120, .inl t_line))] sz) := by
  refine Met.ofW (cc := cX8_writesNumber) (maxL := 2) (ret := none) (by decide) rfl ?_
  intro p e s m args below meth c s₁ B hml hv
  obtain ⟨hav, hsz, hP, hK, hD0⟩ := hv
  have hx := B.exec
  have hb := B.bytes
  have hr := B.returns
  have hts := atoms_spec (ws := wsX8_writesNumber) B.pre
  have hown : s.vm.findClass RX8 = some m.cls := findClass_of_methodNamed B.named
  have hlocks := B.notSynchronized
  subst hsz
  have hD := hD0.self (sz := s.heap.size)
  obtain ⟨A, hAe⟩ : ∃ A : Nat → Prop, va_A [(a_t, .inr (12, [.ref a_t_now, .ref a_t_tried, .ref a_t_kept, .int t_undos, .ref a_t_saved, .int t_isSaved, .ref a_t_line, .int t_lined, .ref a_t_text, .int t_length, .int t_at, .int t_order, .ref a_t_told, .int t_fault, .int t_reason, .int t_detail, .int t_index, .int t_answer, .int t_thrown, .ref a_t_way, .int t_went, .int t_fell])), (a_t_line, .inl (y 1, 120, .inl t_line))] s.heap.size = A := ⟨_, rfl⟩
  rw [hAe] at hD
  have hA : ∀ q, s.heap.size ≤ q → A q := fun q h => by rw [← hAe]; exact Or.inr h
  have hS : va_S A s.heap s.heap [] := va_S.rf
  refine W_q (R1 := (rmq 1 21)) rfl (fun Q0 hQ0 => ?_)
  unfold F_X8_writesNumber1 at hF
  refine W_entry hav (Nat.le_of_ble_eq_true rfl) (fun ls hl => ?_)
  have hl : lv_has ls 2 [(0, .ref a_t), (1, .int p1)] := hl
  refine lv_iload_n hx hb dX8_writesNumber_0 rfl (lv_at hl 1 rfl) ?_
  refine lv_bipush (v := 9) hx hb dX8_writesNumber_1 (by decide) ?_
  refine lv_icmp_le (tgt := 14) hx hb dX8_writesNumber_3 (by decide) (fun c_3 => ?_) (fun c_3 => ?_)
  · have hF := ift hF c_3
    refine lv_aload_n hx hb dX8_writesNumber_14 rfl (lv_at hl 0 rfl) ?_
    refine va_get (D := D) (ci := 12) (v := .ref a_t_line) (C := RX8) (T := TX8) (N := 22) hx hb hts iX8_writesNumber1_X8 hown hK hP 0 rfl rfl 6 (by decide) (hts (.fieldLink RX8 22 "SkipArchiveModel" "line" "[C") (List.mem_of_getElem? (i := 1) rfl)) (fun _ h9 => h9) rfl dX8_writesNumber_15 ?_
    refine lv_aload_n hx hb dX8_writesNumber_18 rfl (lv_at hl 0 rfl) ?_
    refine lv_dup hx hb dX8_writesNumber_19 rfl ?_
    refine va_get (D := D) (ci := 12) (v := .int t_lined) (C := RX8) (T := TX8) (N := 22) hx hb hts iX8_writesNumber1_X8 hown hK hP 0 rfl rfl 7 (by decide) (hts (.fieldLink RX8 197 "SkipArchiveModel" "lined" "I") (List.mem_of_getElem? (i := 2) rfl)) (fun _ h9 => h9) rfl dX8_writesNumber_20 ?_
    refine lv_dup_x1 hx hb dX8_writesNumber_23 rfl rfl ?_
    refine lv_iconst (v := 1) hx hb dX8_writesNumber_24 (by decide) ?_
    refine lv_iadd hx hb dX8_writesNumber_25 ?_
    refine va_put (D := D) (ci := 12) (v := .int (t_lined + (1 : Int32))) (ty := .int) (C := RX8) (T := TX8) (N := 22) hx hb hts iX8_writesNumber1_X8 tyX8 tyX8_ok nmX8 hown hK hP hD hS 0 rfl rfl 7 (by decide) (hts (.fieldLink RX8 197 "SkipArchiveModel" "lined" "I") (List.mem_of_getElem? (i := 2) rfl)) (fun _ h9 => h9) rfl (by decide +kernel) rfl rfl (Nat.le_of_ble_eq_true rfl) dX8_writesNumber_26 (fun H locs hP hD hS => ?_)
    have hP : va_P D vwCl [(a_t, .inr (12, [.ref a_t_now, .ref a_t_tried, .ref a_t_kept, .int t_undos, .ref a_t_saved, .int t_isSaved, .ref a_t_line, .int (t_lined + (1 : Int32)), .ref a_t_text, .int t_length, .int t_at, .int t_order, .ref a_t_told, .int t_fault, .int t_reason, .int t_detail, .int t_index, .int t_answer, .int t_thrown, .ref a_t_way, .int t_went, .int t_fell])), (a_t_line, .inl (y 1, 120, .inl t_line))] H := hP
    have hD : va_D A [(a_t, .inr (12, [.ref a_t_now, .ref a_t_tried, .ref a_t_kept, .int t_undos, .ref a_t_saved, .int t_isSaved, .ref a_t_line, .int (t_lined + (1 : Int32)), .ref a_t_text, .int t_length, .int t_at, .int t_order, .ref a_t_told, .int t_fault, .int t_reason, .int t_detail, .int t_index, .int t_answer, .int t_thrown, .ref a_t_way, .int t_went, .int t_fell])), (a_t_line, .inl (y 1, 120, .inl t_line))] := hD
    refine lv_bipush (v := 48) hx hb dX8_writesNumber_29 (by decide) ?_
    refine lv_iload_n hx hb dX8_writesNumber_31 rfl (lv_at hl 1 rfl) ?_
    refine lv_bipush (v := 10) hx hb dX8_writesNumber_32 (by decide) ?_
    refine lv_irem hx hb dX8_writesNumber_34 (by decide) ?_
    refine lv_iadd hx hb dX8_writesNumber_35 ?_
    refine lv_i2c hx hb dX8_writesNumber_36 rfl ?_
    obtain ⟨g_37, hF⟩ := gi_i hF
    refine va_cast hx hb hK hP hD hS 1 1 rfl rfl g_37 dX8_writesNumber_37 (fun H locs hP hD hS => ?_)
    have hP : va_P D vwCl [(a_t, .inr (12, [.ref a_t_now, .ref a_t_tried, .ref a_t_kept, .int t_undos, .ref a_t_saved, .int t_isSaved, .ref a_t_line, .int (t_lined + (1 : Int32)), .ref a_t_text, .int t_length, .int t_at, .int t_order, .ref a_t_told, .int t_fault, .int t_reason, .int t_detail, .int t_index, .int t_answer, .int t_thrown, .ref a_t_way, .int t_went, .int t_fell])), (a_t_line, .inl (y 1, 120, .inl (upd t_line t_lined.toNatClampNeg (vp_nar .char ((((48 : Int32) + (p1 - p1 / (10 : Int32) * (10 : Int32))).toUInt32 % 65536).toInt32)))))] H := hP
    have hD : va_D A [(a_t, .inr (12, [.ref a_t_now, .ref a_t_tried, .ref a_t_kept, .int t_undos, .ref a_t_saved, .int t_isSaved, .ref a_t_line, .int (t_lined + (1 : Int32)), .ref a_t_text, .int t_length, .int t_at, .int t_order, .ref a_t_told, .int t_fault, .int t_reason, .int t_detail, .int t_index, .int t_answer, .int t_thrown, .ref a_t_way, .int t_went, .int t_fell])), (a_t_line, .inl (y 1, 120, .inl (upd t_line t_lined.toNatClampNeg (vp_nar .char ((((48 : Int32) + (p1 - p1 / (10 : Int32) * (10 : Int32))).toUInt32 % 65536).toInt32)))))] := hD
    obtain ⟨e0_38, e1_38⟩ := inj2 hF
    rw [← e0_38, ← e1_38] at hQ0
    rw [hQ0]
    exact ret_v hx hb hr hlocks hAe hK hP hD hS [0, 1] rfl rfl dX8_writesNumber_38
  · have hF := iff_ hF c_3
    refine lv_aload_n hx hb dX8_writesNumber_6 rfl (lv_at hl 0 rfl) ?_
    refine lv_iload_n hx hb dX8_writesNumber_7 rfl (lv_at hl 1 rfl) ?_
    refine lv_bipush (v := 10) hx hb dX8_writesNumber_8 (by decide) ?_
    refine lv_idiv hx hb dX8_writesNumber_10 (by decide) ?_
    obtain ⟨t_lined_11, t_line_11, hq_11, hF⟩ := bn2_i hF
    refine cm_Vv (As := [.int (p1 / (10 : Int32))]) (rest := []) (wr := []) ⟨hx, hb, hml, hown, hts⟩ (c_X8_writesNumber0 l D y fl s.heap.size a_t a_t_now a_t_tried a_t_kept a_t_saved a_t_line a_t_text a_t_told a_t_way t_undos t_isSaved t_lined t_length t_at t_order t_fault t_reason t_detail t_index t_answer t_thrown t_went t_fell t_line (p1 / (10 : Int32)) t_lined_11 t_line_11 hq_11) (cwV 1 hts gX8_writesNumber_X8_writesNumber rfl rfl rfl (by decide +kernel) ⟨Nat.le_of_ble_eq_true rfl, Nat.le_of_ble_eq_true rfl⟩) hK hP hD hS hA [0, 1] [] rfl rfl rfl rfl (by decide) rfl rfl rfl hl.1 rfl (Nat.le_of_ble_eq_true rfl) dX8_writesNumber_11 ⟨Nat.le_of_ble_eq_true rfl, Nat.le_of_ble_eq_true rfl⟩ (fun H locs hP hD hS => ?_)
    have hP : va_P D vwCl [(a_t, .inr (12, [.ref a_t_now, .ref a_t_tried, .ref a_t_kept, .int t_undos, .ref a_t_saved, .int t_isSaved, .ref a_t_line, .int t_lined_11, .ref a_t_text, .int t_length, .int t_at, .int t_order, .ref a_t_told, .int t_fault, .int t_reason, .int t_detail, .int t_index, .int t_answer, .int t_thrown, .ref a_t_way, .int t_went, .int t_fell])), (a_t_line, .inl (y 1, 120, .inl t_line_11))] H := hP
    have hD : va_D A [(a_t, .inr (12, [.ref a_t_now, .ref a_t_tried, .ref a_t_kept, .int t_undos, .ref a_t_saved, .int t_isSaved, .ref a_t_line, .int t_lined_11, .ref a_t_text, .int t_length, .int t_at, .int t_order, .ref a_t_told, .int t_fault, .int t_reason, .int t_detail, .int t_index, .int t_answer, .int t_thrown, .ref a_t_way, .int t_went, .int t_fell])), (a_t_line, .inl (y 1, 120, .inl t_line_11))] := hD
    refine lv_aload_n hx hb dX8_writesNumber_14 rfl (lv_at hl 0 rfl) ?_
    refine va_get (D := D) (ci := 12) (v := .ref a_t_line) (C := RX8) (T := TX8) (N := 22) hx hb hts iX8_writesNumber1_X8 hown hK hP 0 rfl rfl 6 (by decide) (hts (.fieldLink RX8 22 "SkipArchiveModel" "line" "[C") (List.mem_of_getElem? (i := 1) rfl)) (fun _ h9 => h9) rfl dX8_writesNumber_15 ?_
    refine lv_aload_n hx hb dX8_writesNumber_18 rfl (lv_at hl 0 rfl) ?_
    refine lv_dup hx hb dX8_writesNumber_19 rfl ?_
    refine va_get (D := D) (ci := 12) (v := .int t_lined_11) (C := RX8) (T := TX8) (N := 22) hx hb hts iX8_writesNumber1_X8 hown hK hP 0 rfl rfl 7 (by decide) (hts (.fieldLink RX8 197 "SkipArchiveModel" "lined" "I") (List.mem_of_getElem? (i := 2) rfl)) (fun _ h9 => h9) rfl dX8_writesNumber_20 ?_
    refine lv_dup_x1 hx hb dX8_writesNumber_23 rfl rfl ?_
    refine lv_iconst (v := 1) hx hb dX8_writesNumber_24 (by decide) ?_
    refine lv_iadd hx hb dX8_writesNumber_25 ?_
    refine va_put (D := D) (ci := 12) (v := .int (t_lined_11 + (1 : Int32))) (ty := .int) (C := RX8) (T := TX8) (N := 22) hx hb hts iX8_writesNumber1_X8 tyX8 tyX8_ok nmX8 hown hK hP hD hS 0 rfl rfl 7 (by decide) (hts (.fieldLink RX8 197 "SkipArchiveModel" "lined" "I") (List.mem_of_getElem? (i := 2) rfl)) (fun _ h9 => h9) rfl (by decide +kernel) rfl rfl (Nat.le_of_ble_eq_true rfl) dX8_writesNumber_26 (fun H locs hP hD hS => ?_)
    have hP : va_P D vwCl [(a_t, .inr (12, [.ref a_t_now, .ref a_t_tried, .ref a_t_kept, .int t_undos, .ref a_t_saved, .int t_isSaved, .ref a_t_line, .int (t_lined_11 + (1 : Int32)), .ref a_t_text, .int t_length, .int t_at, .int t_order, .ref a_t_told, .int t_fault, .int t_reason, .int t_detail, .int t_index, .int t_answer, .int t_thrown, .ref a_t_way, .int t_went, .int t_fell])), (a_t_line, .inl (y 1, 120, .inl t_line_11))] H := hP
    have hD : va_D A [(a_t, .inr (12, [.ref a_t_now, .ref a_t_tried, .ref a_t_kept, .int t_undos, .ref a_t_saved, .int t_isSaved, .ref a_t_line, .int (t_lined_11 + (1 : Int32)), .ref a_t_text, .int t_length, .int t_at, .int t_order, .ref a_t_told, .int t_fault, .int t_reason, .int t_detail, .int t_index, .int t_answer, .int t_thrown, .ref a_t_way, .int t_went, .int t_fell])), (a_t_line, .inl (y 1, 120, .inl t_line_11))] := hD
    refine lv_bipush (v := 48) hx hb dX8_writesNumber_29 (by decide) ?_
    refine lv_iload_n hx hb dX8_writesNumber_31 rfl (lv_at hl 1 rfl) ?_
    refine lv_bipush (v := 10) hx hb dX8_writesNumber_32 (by decide) ?_
    refine lv_irem hx hb dX8_writesNumber_34 (by decide) ?_
    refine lv_iadd hx hb dX8_writesNumber_35 ?_
    refine lv_i2c hx hb dX8_writesNumber_36 rfl ?_
    obtain ⟨g_37b, hF⟩ := gi_i hF
    refine va_cast hx hb hK hP hD hS 1 1 rfl rfl g_37b dX8_writesNumber_37 (fun H locs hP hD hS => ?_)
    have hP : va_P D vwCl [(a_t, .inr (12, [.ref a_t_now, .ref a_t_tried, .ref a_t_kept, .int t_undos, .ref a_t_saved, .int t_isSaved, .ref a_t_line, .int (t_lined_11 + (1 : Int32)), .ref a_t_text, .int t_length, .int t_at, .int t_order, .ref a_t_told, .int t_fault, .int t_reason, .int t_detail, .int t_index, .int t_answer, .int t_thrown, .ref a_t_way, .int t_went, .int t_fell])), (a_t_line, .inl (y 1, 120, .inl (upd t_line_11 t_lined_11.toNatClampNeg (vp_nar .char ((((48 : Int32) + (p1 - p1 / (10 : Int32) * (10 : Int32))).toUInt32 % 65536).toInt32)))))] H := hP
    have hD : va_D A [(a_t, .inr (12, [.ref a_t_now, .ref a_t_tried, .ref a_t_kept, .int t_undos, .ref a_t_saved, .int t_isSaved, .ref a_t_line, .int (t_lined_11 + (1 : Int32)), .ref a_t_text, .int t_length, .int t_at, .int t_order, .ref a_t_told, .int t_fault, .int t_reason, .int t_detail, .int t_index, .int t_answer, .int t_thrown, .ref a_t_way, .int t_went, .int t_fell])), (a_t_line, .inl (y 1, 120, .inl (upd t_line_11 t_lined_11.toNatClampNeg (vp_nar .char ((((48 : Int32) + (p1 - p1 / (10 : Int32) * (10 : Int32))).toUInt32 % 65536).toInt32)))))] := hD
    obtain ⟨e0_38, e1_38⟩ := inj2 hF
    rw [← e0_38, ← e1_38] at hQ0
    rw [hQ0]
    exact ret_v hx hb hr hlocks hAe hK hP hD hS [0, 1] rfl rfl dX8_writesNumber_38
def F_X8_writesNumber2 (fl : Nat) (t_lined : Int32) (t_line : Nat → Int32) (p1 : Int32) : Option (Int32 × (Nat → Int32)) := if p1 ≤ (9 : Int32) then (gi t_lined 120 (some (t_lined + (1 : Int32), upd t_line t_lined.toNatClampNeg (vp_nar .char ((((48 : Int32) + (p1 - p1 / (10 : Int32) * (10 : Int32))).toUInt32 % 65536).toInt32))))) else (bn2 (F_X8_writesNumber1 fl t_lined t_line (p1 / (10 : Int32))) fun t_lined_11 t_line_11 => gi t_lined_11 120 (some (t_lined_11 + (1 : Int32), upd t_line_11 t_lined_11.toNatClampNeg (vp_nar .char ((((48 : Int32) + (p1 - p1 / (10 : Int32) * (10 : Int32))).toUInt32 % 65536).toInt32)))))
theorem iX8_writesNumber2_X8 : ∀ w ∈ u_ws RX8 TX8 22, w ∈ wsX8_writesNumber := fun w h => List.mem_cons_of_mem _ (List.mem_append_left _ (List.mem_append_right _ h))
set_option maxHeartbeats 4000000 in
set_option maxRecDepth 100000 in
theorem c_X8_writesNumber2 (l : Launch) (D : va_G) (y : Nat → ClassId) (fl : Nat) (sz : Nat) (a_t : Nat) (a_t_now : Nat) (a_t_tried : Nat) (a_t_kept : Nat) (a_t_saved : Nat) (a_t_line : Nat) (a_t_text : Nat) (a_t_told : Nat) (a_t_way : Nat) (t_undos : Int32) (t_isSaved : Int32) (t_lined : Int32) (t_length : Int32) (t_at : Int32) (t_order : Int32) (t_fault : Int32) (t_reason : Int32) (t_detail : Int32) (t_index : Int32) (t_answer : Int32) (t_thrown : Int32) (t_went : Int32) (t_fell : Int32) (t_line : Nat → Int32) (p1 : Int32) (t_lined' : Int32) (t_line' : Nat → Int32) (hF : F_X8_writesNumber2 fl t_lined t_line p1 = some (t_lined', t_line')) : Met l yX8_writesNumber wsX8_writesNumber (rmq 2 42) (wrP D y [(a_t, .inr (12, [.ref a_t_now, .ref a_t_tried, .ref a_t_kept, .int t_undos, .ref a_t_saved, .int t_isSaved, .ref a_t_line, .int t_lined, .ref a_t_text, .int t_length, .int t_at, .int t_order, .ref a_t_told, .int t_fault, .int t_reason, .int t_detail, .int t_index, .int t_answer, .int t_thrown, .ref a_t_way, .int t_went, .int t_fell])), (a_t_line, .inl (y 1, 120, .inl t_line))] sz [.ref a_t, .int p1]) (wQv D y [(a_t, .inr (12, [.ref a_t_now, .ref a_t_tried, .ref a_t_kept, .int t_undos, .ref a_t_saved, .int t_isSaved, .ref a_t_line, .int t_lined', .ref a_t_text, .int t_length, .int t_at, .int t_order, .ref a_t_told, .int t_fault, .int t_reason, .int t_detail, .int t_index, .int t_answer, .int t_thrown, .ref a_t_way, .int t_went, .int t_fell])), (a_t_line, .inl (y 1, 120, .inl t_line'))] [(a_t, .inr (12, [.ref a_t_now, .ref a_t_tried, .ref a_t_kept, .int t_undos, .ref a_t_saved, .int t_isSaved, .ref a_t_line, .int t_lined, .ref a_t_text, .int t_length, .int t_at, .int t_order, .ref a_t_told, .int t_fault, .int t_reason, .int t_detail, .int t_index, .int t_answer, .int t_thrown, .ref a_t_way, .int t_went, .int t_fell])), (a_t_line, .inl (y 1, 120, .inl t_line))] sz) 0 0 (va_A [(a_t, .inr (12, [.ref a_t_now, .ref a_t_tried, .ref a_t_kept, .int t_undos, .ref a_t_saved, .int t_isSaved, .ref a_t_line, .int t_lined, .ref a_t_text, .int t_length, .int t_at, .int t_order, .ref a_t_told, .int t_fault, .int t_reason, .int t_detail, .int t_index, .int t_answer, .int t_thrown, .ref a_t_way, .int t_went, .int t_fell])), (a_t_line, .inl (y 1, 120, .inl t_line))] sz) := by
  refine Met.ofW (cc := cX8_writesNumber) (maxL := 2) (ret := none) (by decide) rfl ?_
  intro p e s m args below meth c s₁ B hml hv
  obtain ⟨hav, hsz, hP, hK, hD0⟩ := hv
  have hx := B.exec
  have hb := B.bytes
  have hr := B.returns
  have hts := atoms_spec (ws := wsX8_writesNumber) B.pre
  have hown : s.vm.findClass RX8 = some m.cls := findClass_of_methodNamed B.named
  have hlocks := B.notSynchronized
  subst hsz
  have hD := hD0.self (sz := s.heap.size)
  obtain ⟨A, hAe⟩ : ∃ A : Nat → Prop, va_A [(a_t, .inr (12, [.ref a_t_now, .ref a_t_tried, .ref a_t_kept, .int t_undos, .ref a_t_saved, .int t_isSaved, .ref a_t_line, .int t_lined, .ref a_t_text, .int t_length, .int t_at, .int t_order, .ref a_t_told, .int t_fault, .int t_reason, .int t_detail, .int t_index, .int t_answer, .int t_thrown, .ref a_t_way, .int t_went, .int t_fell])), (a_t_line, .inl (y 1, 120, .inl t_line))] s.heap.size = A := ⟨_, rfl⟩
  rw [hAe] at hD
  have hA : ∀ q, s.heap.size ≤ q → A q := fun q h => by rw [← hAe]; exact Or.inr h
  have hS : va_S A s.heap s.heap [] := va_S.rf
  refine W_q (R1 := (rmq 2 42)) rfl (fun Q0 hQ0 => ?_)
  unfold F_X8_writesNumber2 at hF
  refine W_entry hav (Nat.le_of_ble_eq_true rfl) (fun ls hl => ?_)
  have hl : lv_has ls 2 [(0, .ref a_t), (1, .int p1)] := hl
  refine lv_iload_n hx hb dX8_writesNumber_0 rfl (lv_at hl 1 rfl) ?_
  refine lv_bipush (v := 9) hx hb dX8_writesNumber_1 (by decide) ?_
  refine lv_icmp_le (tgt := 14) hx hb dX8_writesNumber_3 (by decide) (fun c_3 => ?_) (fun c_3 => ?_)
  · have hF := ift hF c_3
    refine lv_aload_n hx hb dX8_writesNumber_14 rfl (lv_at hl 0 rfl) ?_
    refine va_get (D := D) (ci := 12) (v := .ref a_t_line) (C := RX8) (T := TX8) (N := 22) hx hb hts iX8_writesNumber2_X8 hown hK hP 0 rfl rfl 6 (by decide) (hts (.fieldLink RX8 22 "SkipArchiveModel" "line" "[C") (List.mem_of_getElem? (i := 1) rfl)) (fun _ h9 => h9) rfl dX8_writesNumber_15 ?_
    refine lv_aload_n hx hb dX8_writesNumber_18 rfl (lv_at hl 0 rfl) ?_
    refine lv_dup hx hb dX8_writesNumber_19 rfl ?_
    refine va_get (D := D) (ci := 12) (v := .int t_lined) (C := RX8) (T := TX8) (N := 22) hx hb hts iX8_writesNumber2_X8 hown hK hP 0 rfl rfl 7 (by decide) (hts (.fieldLink RX8 197 "SkipArchiveModel" "lined" "I") (List.mem_of_getElem? (i := 2) rfl)) (fun _ h9 => h9) rfl dX8_writesNumber_20 ?_
    refine lv_dup_x1 hx hb dX8_writesNumber_23 rfl rfl ?_
    refine lv_iconst (v := 1) hx hb dX8_writesNumber_24 (by decide) ?_
    refine lv_iadd hx hb dX8_writesNumber_25 ?_
    refine va_put (D := D) (ci := 12) (v := .int (t_lined + (1 : Int32))) (ty := .int) (C := RX8) (T := TX8) (N := 22) hx hb hts iX8_writesNumber2_X8 tyX8 tyX8_ok nmX8 hown hK hP hD hS 0 rfl rfl 7 (by decide) (hts (.fieldLink RX8 197 "SkipArchiveModel" "lined" "I") (List.mem_of_getElem? (i := 2) rfl)) (fun _ h9 => h9) rfl (by decide +kernel) rfl rfl (Nat.le_of_ble_eq_true rfl) dX8_writesNumber_26 (fun H locs hP hD hS => ?_)
    have hP : va_P D vwCl [(a_t, .inr (12, [.ref a_t_now, .ref a_t_tried, .ref a_t_kept, .int t_undos, .ref a_t_saved, .int t_isSaved, .ref a_t_line, .int (t_lined + (1 : Int32)), .ref a_t_text, .int t_length, .int t_at, .int t_order, .ref a_t_told, .int t_fault, .int t_reason, .int t_detail, .int t_index, .int t_answer, .int t_thrown, .ref a_t_way, .int t_went, .int t_fell])), (a_t_line, .inl (y 1, 120, .inl t_line))] H := hP
    have hD : va_D A [(a_t, .inr (12, [.ref a_t_now, .ref a_t_tried, .ref a_t_kept, .int t_undos, .ref a_t_saved, .int t_isSaved, .ref a_t_line, .int (t_lined + (1 : Int32)), .ref a_t_text, .int t_length, .int t_at, .int t_order, .ref a_t_told, .int t_fault, .int t_reason, .int t_detail, .int t_index, .int t_answer, .int t_thrown, .ref a_t_way, .int t_went, .int t_fell])), (a_t_line, .inl (y 1, 120, .inl t_line))] := hD
    refine lv_bipush (v := 48) hx hb dX8_writesNumber_29 (by decide) ?_
    refine lv_iload_n hx hb dX8_writesNumber_31 rfl (lv_at hl 1 rfl) ?_
    refine lv_bipush (v := 10) hx hb dX8_writesNumber_32 (by decide) ?_
    refine lv_irem hx hb dX8_writesNumber_34 (by decide) ?_
    refine lv_iadd hx hb dX8_writesNumber_35 ?_
    refine lv_i2c hx hb dX8_writesNumber_36 rfl ?_
    obtain ⟨g_37, hF⟩ := gi_i hF
    refine va_cast hx hb hK hP hD hS 1 1 rfl rfl g_37 dX8_writesNumber_37 (fun H locs hP hD hS => ?_)
    have hP : va_P D vwCl [(a_t, .inr (12, [.ref a_t_now, .ref a_t_tried, .ref a_t_kept, .int t_undos, .ref a_t_saved, .int t_isSaved, .ref a_t_line, .int (t_lined + (1 : Int32)), .ref a_t_text, .int t_length, .int t_at, .int t_order, .ref a_t_told, .int t_fault, .int t_reason, .int t_detail, .int t_index, .int t_answer, .int t_thrown, .ref a_t_way, .int t_went, .int t_fell])), (a_t_line, .inl (y 1, 120, .inl (upd t_line t_lined.toNatClampNeg (vp_nar .char ((((48 : Int32) + (p1 - p1 / (10 : Int32) * (10 : Int32))).toUInt32 % 65536).toInt32)))))] H := hP
    have hD : va_D A [(a_t, .inr (12, [.ref a_t_now, .ref a_t_tried, .ref a_t_kept, .int t_undos, .ref a_t_saved, .int t_isSaved, .ref a_t_line, .int (t_lined + (1 : Int32)), .ref a_t_text, .int t_length, .int t_at, .int t_order, .ref a_t_told, .int t_fault, .int t_reason, .int t_detail, .int t_index, .int t_answer, .int t_thrown, .ref a_t_way, .int t_went, .int t_fell])), (a_t_line, .inl (y 1, 120, .inl (upd t_line t_lined.toNatClampNeg (vp_nar .char ((((48 : Int32) + (p1 - p1 / (10 : Int32) * (10 : Int32))).toUInt32 % 65536).toInt32)))))] := hD
    obtain ⟨e0_38, e1_38⟩ := inj2 hF
    rw [← e0_38, ← e1_38] at hQ0
    rw [hQ0]
    exact ret_v hx hb hr hlocks hAe hK hP hD hS [0, 1] rfl rfl dX8_writesNumber_38
  · have hF := iff_ hF c_3
    refine lv_aload_n hx hb dX8_writesNumber_6 rfl (lv_at hl 0 rfl) ?_
    refine lv_iload_n hx hb dX8_writesNumber_7 rfl (lv_at hl 1 rfl) ?_
    refine lv_bipush (v := 10) hx hb dX8_writesNumber_8 (by decide) ?_
    refine lv_idiv hx hb dX8_writesNumber_10 (by decide) ?_
    obtain ⟨t_lined_11, t_line_11, hq_11, hF⟩ := bn2_i hF
    refine cm_Vv (As := [.int (p1 / (10 : Int32))]) (rest := []) (wr := []) ⟨hx, hb, hml, hown, hts⟩ (c_X8_writesNumber1 l D y fl s.heap.size a_t a_t_now a_t_tried a_t_kept a_t_saved a_t_line a_t_text a_t_told a_t_way t_undos t_isSaved t_lined t_length t_at t_order t_fault t_reason t_detail t_index t_answer t_thrown t_went t_fell t_line (p1 / (10 : Int32)) t_lined_11 t_line_11 hq_11) (cwV 1 hts gX8_writesNumber_X8_writesNumber rfl rfl rfl (by decide +kernel) ⟨Nat.le_of_ble_eq_true rfl, Nat.le_of_ble_eq_true rfl⟩) hK hP hD hS hA [0, 1] [] rfl rfl rfl rfl (by decide) rfl rfl rfl hl.1 rfl (Nat.le_of_ble_eq_true rfl) dX8_writesNumber_11 ⟨Nat.le_of_ble_eq_true rfl, Nat.le_of_ble_eq_true rfl⟩ (fun H locs hP hD hS => ?_)
    have hP : va_P D vwCl [(a_t, .inr (12, [.ref a_t_now, .ref a_t_tried, .ref a_t_kept, .int t_undos, .ref a_t_saved, .int t_isSaved, .ref a_t_line, .int t_lined_11, .ref a_t_text, .int t_length, .int t_at, .int t_order, .ref a_t_told, .int t_fault, .int t_reason, .int t_detail, .int t_index, .int t_answer, .int t_thrown, .ref a_t_way, .int t_went, .int t_fell])), (a_t_line, .inl (y 1, 120, .inl t_line_11))] H := hP
    have hD : va_D A [(a_t, .inr (12, [.ref a_t_now, .ref a_t_tried, .ref a_t_kept, .int t_undos, .ref a_t_saved, .int t_isSaved, .ref a_t_line, .int t_lined_11, .ref a_t_text, .int t_length, .int t_at, .int t_order, .ref a_t_told, .int t_fault, .int t_reason, .int t_detail, .int t_index, .int t_answer, .int t_thrown, .ref a_t_way, .int t_went, .int t_fell])), (a_t_line, .inl (y 1, 120, .inl t_line_11))] := hD
    refine lv_aload_n hx hb dX8_writesNumber_14 rfl (lv_at hl 0 rfl) ?_
    refine va_get (D := D) (ci := 12) (v := .ref a_t_line) (C := RX8) (T := TX8) (N := 22) hx hb hts iX8_writesNumber2_X8 hown hK hP 0 rfl rfl 6 (by decide) (hts (.fieldLink RX8 22 "SkipArchiveModel" "line" "[C") (List.mem_of_getElem? (i := 1) rfl)) (fun _ h9 => h9) rfl dX8_writesNumber_15 ?_
    refine lv_aload_n hx hb dX8_writesNumber_18 rfl (lv_at hl 0 rfl) ?_
    refine lv_dup hx hb dX8_writesNumber_19 rfl ?_
    refine va_get (D := D) (ci := 12) (v := .int t_lined_11) (C := RX8) (T := TX8) (N := 22) hx hb hts iX8_writesNumber2_X8 hown hK hP 0 rfl rfl 7 (by decide) (hts (.fieldLink RX8 197 "SkipArchiveModel" "lined" "I") (List.mem_of_getElem? (i := 2) rfl)) (fun _ h9 => h9) rfl dX8_writesNumber_20 ?_
    refine lv_dup_x1 hx hb dX8_writesNumber_23 rfl rfl ?_
    refine lv_iconst (v := 1) hx hb dX8_writesNumber_24 (by decide) ?_
    refine lv_iadd hx hb dX8_writesNumber_25 ?_
    refine va_put (D := D) (ci := 12) (v := .int (t_lined_11 + (1 : Int32))) (ty := .int) (C := RX8) (T := TX8) (N := 22) hx hb hts iX8_writesNumber2_X8 tyX8 tyX8_ok nmX8 hown hK hP hD hS 0 rfl rfl 7 (by decide) (hts (.fieldLink RX8 197 "SkipArchiveModel" "lined" "I") (List.mem_of_getElem? (i := 2) rfl)) (fun _ h9 => h9) rfl (by decide +kernel) rfl rfl (Nat.le_of_ble_eq_true rfl) dX8_writesNumber_26 (fun H locs hP hD hS => ?_)
    have hP : va_P D vwCl [(a_t, .inr (12, [.ref a_t_now, .ref a_t_tried, .ref a_t_kept, .int t_undos, .ref a_t_saved, .int t_isSaved, .ref a_t_line, .int (t_lined_11 + (1 : Int32)), .ref a_t_text, .int t_length, .int t_at, .int t_order, .ref a_t_told, .int t_fault, .int t_reason, .int t_detail, .int t_index, .int t_answer, .int t_thrown, .ref a_t_way, .int t_went, .int t_fell])), (a_t_line, .inl (y 1, 120, .inl t_line_11))] H := hP
    have hD : va_D A [(a_t, .inr (12, [.ref a_t_now, .ref a_t_tried, .ref a_t_kept, .int t_undos, .ref a_t_saved, .int t_isSaved, .ref a_t_line, .int (t_lined_11 + (1 : Int32)), .ref a_t_text, .int t_length, .int t_at, .int t_order, .ref a_t_told, .int t_fault, .int t_reason, .int t_detail, .int t_index, .int t_answer, .int t_thrown, .ref a_t_way, .int t_went, .int t_fell])), (a_t_line, .inl (y 1, 120, .inl t_line_11))] := hD
    refine lv_bipush (v := 48) hx hb dX8_writesNumber_29 (by decide) ?_
    refine lv_iload_n hx hb dX8_writesNumber_31 rfl (lv_at hl 1 rfl) ?_
    refine lv_bipush (v := 10) hx hb dX8_writesNumber_32 (by decide) ?_
    refine lv_irem hx hb dX8_writesNumber_34 (by decide) ?_
    refine lv_iadd hx hb dX8_writesNumber_35 ?_
    refine lv_i2c hx hb dX8_writesNumber_36 rfl ?_
    obtain ⟨g_37b, hF⟩ := gi_i hF
    refine va_cast hx hb hK hP hD hS 1 1 rfl rfl g_37b dX8_writesNumber_37 (fun H locs hP hD hS => ?_)
    have hP : va_P D vwCl [(a_t, .inr (12, [.ref a_t_now, .ref a_t_tried, .ref a_t_kept, .int t_undos, .ref a_t_saved, .int t_isSaved, .ref a_t_line, .int (t_lined_11 + (1 : Int32)), .ref a_t_text, .int t_length, .int t_at, .int t_order, .ref a_t_told, .int t_fault, .int t_reason, .int t_detail, .int t_index, .int t_answer, .int t_thrown, .ref a_t_way, .int t_went, .int t_fell])), (a_t_line, .inl (y 1, 120, .inl (upd t_line_11 t_lined_11.toNatClampNeg (vp_nar .char ((((48 : Int32) + (p1 - p1 / (10 : Int32) * (10 : Int32))).toUInt32 % 65536).toInt32)))))] H := hP
    have hD : va_D A [(a_t, .inr (12, [.ref a_t_now, .ref a_t_tried, .ref a_t_kept, .int t_undos, .ref a_t_saved, .int t_isSaved, .ref a_t_line, .int (t_lined_11 + (1 : Int32)), .ref a_t_text, .int t_length, .int t_at, .int t_order, .ref a_t_told, .int t_fault, .int t_reason, .int t_detail, .int t_index, .int t_answer, .int t_thrown, .ref a_t_way, .int t_went, .int t_fell])), (a_t_line, .inl (y 1, 120, .inl (upd t_line_11 t_lined_11.toNatClampNeg (vp_nar .char ((((48 : Int32) + (p1 - p1 / (10 : Int32) * (10 : Int32))).toUInt32 % 65536).toInt32)))))] := hD
    obtain ⟨e0_38, e1_38⟩ := inj2 hF
    rw [← e0_38, ← e1_38] at hQ0
    rw [hQ0]
    exact ret_v hx hb hr hlocks hAe hK hP hD hS [0, 1] rfl rfl dX8_writesNumber_38
def F_X8_line_79 (fl : Nat) (t_now : Nat → Int32) : Nat → Int32 → Int32 → (Nat → Int32) → Int32 → Int32 → Option (Int32 × Int32 × Int32 × (Nat → Int32))
  | 0, _, _, _, _, _ => none
  | n + 1, t_lined_w, t_thrown_w, t_line_w, x1, x2 => gi (0 : Int32) 77 (if (t_now (0 : Int32).toNatClampNeg) ≤ x2 then (some (t_lined_w, t_lined_w, t_thrown_w, t_line_w)) else (gi t_lined_w 120 (bn (F_X8_key fl t_now x2) fun r_110 => bn2 (F_X8_writesNumber2 fl (t_lined_w + (1 : Int32)) (upd t_line_w t_lined_w.toNatClampNeg (vp_nar .char (32 : Int32))) r_110) fun t_lined_113 t_line_113 => bn (F_X8_next fl t_now x2 x1) fun r_119 => F_X8_line_79 fl t_now n t_lined_113 t_thrown_w t_line_113 x1 r_119)))
def F_X8_line (fl : Nat) (t_lined : Int32) (t_thrown : Int32) (t_now : Nat → Int32) (t_line : Nat → Int32) (p1 : Int32) : Option (Int32 × Int32 × Int32 × (Nat → Int32)) := bn (F_X8_isLevel fl p1) fun r_6 => if r_6 = 0 then (bn2 (F_X8_raises fl (0 : Int32) (1 : Int32)) fun r_14 t_thrown_14 => some (r_14, t_lined, t_thrown_14, t_line)) else (bn2 (F_X8_writesNumber2 fl (0 : Int32) t_line p1) fun t_lined_25 t_line_25 => bn (F_X8_isOut fl t_now p1) fun r_30 => if r_30 = 0 then (gi t_lined_25 120 (bn (F_X8_next fl t_now (-1 : Int32) p1) fun r_75 => F_X8_line_79 fl t_now fl (t_lined_25 + (1 : Int32)) (0 : Int32) (upd t_line_25 t_lined_25.toNatClampNeg (vp_nar .char (58 : Int32))) p1 r_75)) else (gi t_lined_25 120 (gi (t_lined_25 + (1 : Int32)) 120 (bn (F_X8_next fl t_now (-1 : Int32) p1) fun r_75b => F_X8_line_79 fl t_now fl ((t_lined_25 + (1 : Int32)) + (1 : Int32)) (0 : Int32) (upd (upd t_line_25 t_lined_25.toNatClampNeg (vp_nar .char (33 : Int32))) (t_lined_25 + (1 : Int32)).toNatClampNeg (vp_nar .char (58 : Int32))) p1 r_75b))))
theorem iX8_line_X8 : ∀ w ∈ u_ws RX8 TX8 22, w ∈ wsX8_line := fun w h => List.mem_cons_of_mem _ (List.mem_append_left _ (List.mem_append_right _ h))
set_option maxHeartbeats 4000000 in
set_option maxRecDepth 100000 in
theorem c_X8_line (l : Launch) (D : va_G) (y : Nat → ClassId) (fl : Nat) (sz : Nat) (a_t : Nat) (a_t_now : Nat) (a_t_tried : Nat) (a_t_kept : Nat) (a_t_saved : Nat) (a_t_line : Nat) (a_t_text : Nat) (a_t_told : Nat) (a_t_way : Nat) (t_undos : Int32) (t_isSaved : Int32) (t_lined : Int32) (t_length : Int32) (t_at : Int32) (t_order : Int32) (t_fault : Int32) (t_reason : Int32) (t_detail : Int32) (t_index : Int32) (t_answer : Int32) (t_thrown : Int32) (t_went : Int32) (t_fell : Int32) (t_now : Nat → Int32) (t_line : Nat → Int32) (p1 : Int32) (r : Int32) (t_lined' : Int32) (t_thrown' : Int32) (t_line' : Nat → Int32) (hF : F_X8_line fl t_lined t_thrown t_now t_line p1 = some (r, t_lined', t_thrown', t_line')) : Met l yX8_line wsX8_line (rmq 3 63) (wrP D y [(a_t, .inr (12, [.ref a_t_now, .ref a_t_tried, .ref a_t_kept, .int t_undos, .ref a_t_saved, .int t_isSaved, .ref a_t_line, .int t_lined, .ref a_t_text, .int t_length, .int t_at, .int t_order, .ref a_t_told, .int t_fault, .int t_reason, .int t_detail, .int t_index, .int t_answer, .int t_thrown, .ref a_t_way, .int t_went, .int t_fell])), (a_t_now, .inl (y 0, 77, .inl t_now)), (a_t_line, .inl (y 1, 120, .inl t_line))] sz [.ref a_t, .int p1]) (wQi D y r [(a_t, .inr (12, [.ref a_t_now, .ref a_t_tried, .ref a_t_kept, .int t_undos, .ref a_t_saved, .int t_isSaved, .ref a_t_line, .int t_lined', .ref a_t_text, .int t_length, .int t_at, .int t_order, .ref a_t_told, .int t_fault, .int t_reason, .int t_detail, .int t_index, .int t_answer, .int t_thrown', .ref a_t_way, .int t_went, .int t_fell])), (a_t_now, .inl (y 0, 77, .inl t_now)), (a_t_line, .inl (y 1, 120, .inl t_line'))] [(a_t, .inr (12, [.ref a_t_now, .ref a_t_tried, .ref a_t_kept, .int t_undos, .ref a_t_saved, .int t_isSaved, .ref a_t_line, .int t_lined, .ref a_t_text, .int t_length, .int t_at, .int t_order, .ref a_t_told, .int t_fault, .int t_reason, .int t_detail, .int t_index, .int t_answer, .int t_thrown, .ref a_t_way, .int t_went, .int t_fell])), (a_t_now, .inl (y 0, 77, .inl t_now)), (a_t_line, .inl (y 1, 120, .inl t_line))] sz) 0 0 (va_A [(a_t, .inr (12, [.ref a_t_now, .ref a_t_tried, .ref a_t_kept, .int t_undos, .ref a_t_saved, .int t_isSaved, .ref a_t_line, .int t_lined, .ref a_t_text, .int t_length, .int t_at, .int t_order, .ref a_t_told, .int t_fault, .int t_reason, .int t_detail, .int t_index, .int t_answer, .int t_thrown, .ref a_t_way, .int t_went, .int t_fell])), (a_t_now, .inl (y 0, 77, .inl t_now)), (a_t_line, .inl (y 1, 120, .inl t_line))] sz) := by
  refine Met.ofW (cc := cX8_line) (maxL := 3) (ret := (some .int)) (by decide) rfl ?_
  intro p e s m args below meth c s₁ B hml hv
  obtain ⟨hav, hsz, hP, hK, hD0⟩ := hv
  have hx := B.exec
  have hb := B.bytes
  have hr := B.returns
  have hts := atoms_spec (ws := wsX8_line) B.pre
  have hown : s.vm.findClass RX8 = some m.cls := findClass_of_methodNamed B.named
  have hlocks := B.notSynchronized
  subst hsz
  have hD := hD0.self (sz := s.heap.size)
  obtain ⟨A, hAe⟩ : ∃ A : Nat → Prop, va_A [(a_t, .inr (12, [.ref a_t_now, .ref a_t_tried, .ref a_t_kept, .int t_undos, .ref a_t_saved, .int t_isSaved, .ref a_t_line, .int t_lined, .ref a_t_text, .int t_length, .int t_at, .int t_order, .ref a_t_told, .int t_fault, .int t_reason, .int t_detail, .int t_index, .int t_answer, .int t_thrown, .ref a_t_way, .int t_went, .int t_fell])), (a_t_now, .inl (y 0, 77, .inl t_now)), (a_t_line, .inl (y 1, 120, .inl t_line))] s.heap.size = A := ⟨_, rfl⟩
  rw [hAe] at hD
  have hA : ∀ q, s.heap.size ≤ q → A q := fun q h => by rw [← hAe]; exact Or.inr h
  have hS : va_S A s.heap s.heap [] := va_S.rf
  refine W_q (R1 := (rmq 3 63)) rfl (fun Q0 hQ0 => ?_)
  unfold F_X8_line at hF
  have k_79 : ∀ (n : Nat) (t_lined_w : Int32) (t_thrown_w : Int32) (t_line_w : Nat → Int32) (x1 : Int32) (x2 : Int32), F_X8_line_79 fl t_now n t_lined_w t_thrown_w t_line_w x1 x2 = some (r, t_lined', t_thrown', t_line') → ∀ (H : Heap) (locs : List Loc), va_P D vwCl [(a_t, .inr (12, [.ref a_t_now, .ref a_t_tried, .ref a_t_kept, .int t_undos, .ref a_t_saved, .int t_isSaved, .ref a_t_line, .int t_lined_w, .ref a_t_text, .int t_length, .int t_at, .int t_order, .ref a_t_told, .int t_fault, .int t_reason, .int t_detail, .int t_index, .int t_answer, .int t_thrown_w, .ref a_t_way, .int t_went, .int t_fell])), (a_t_now, .inl (y 0, 77, .inl t_now)), (a_t_line, .inl (y 1, 120, .inl t_line_w))] H → va_D A [(a_t, .inr (12, [.ref a_t_now, .ref a_t_tried, .ref a_t_kept, .int t_undos, .ref a_t_saved, .int t_isSaved, .ref a_t_line, .int t_lined_w, .ref a_t_text, .int t_length, .int t_at, .int t_order, .ref a_t_told, .int t_fault, .int t_reason, .int t_detail, .int t_index, .int t_answer, .int t_thrown_w, .ref a_t_way, .int t_went, .int t_fell])), (a_t_now, .inl (y 0, 77, .inl t_now)), (a_t_line, .inl (y 1, 120, .inl t_line_w))] → va_S A s.heap H locs → ∀ (ls : Array Slot), lv_has ls 3 [(0, .ref a_t), (1, .int x1), (2, .int x2)] → W p l e (rmq 3 63) s m args below meth c H locs 0 0 Q0 (F0 m 79 ls []) := by
    intro n
    induction n with
    | zero => intro t_lined_w t_thrown_w t_line_w x1 x2 hF; rw [F_X8_line_79] at hF; cases hF
    | succ n ih =>
      intro t_lined_w t_thrown_w t_line_w x1 x2 hF H locs hP hD hS ls hl
      rw [F_X8_line_79] at hF
      refine lv_iload_n hx hb dX8_line_79 rfl (lv_at hl 2 rfl) ?_
      refine lv_aload_n hx hb dX8_line_80 rfl (lv_at hl 0 rfl) ?_
      refine va_get (D := D) (ci := 12) (v := .ref a_t_now) (C := RX8) (T := TX8) (N := 22) hx hb hts iX8_line_X8 hown hK hP 0 rfl rfl 0 (by decide) (hts (.fieldLink RX8 9 "SkipArchiveModel" "now" "[I") (List.mem_of_getElem? (i := 4) rfl)) (fun _ h9 => h9) rfl dX8_line_81 ?_
      refine lv_iconst (v := 0) hx hb dX8_line_84 (by decide) ?_
      obtain ⟨g_85, hF⟩ := gi_i hF
      refine va_iald hx hb hK hP 1 0 rfl rfl g_85 dX8_line_85 ?_
      refine lv_icmp_ge (tgt := 126) hx hb dX8_line_86 (by decide) (fun c_86 => ?_) (fun c_86 => ?_)
      · have hF := ift hF c_86
        refine lv_aload_n hx hb dX8_line_126 rfl (lv_at hl 0 rfl) ?_
        refine va_get (D := D) (ci := 12) (v := .int t_lined_w) (C := RX8) (T := TX8) (N := 22) hx hb hts iX8_line_X8 hown hK hP 0 rfl rfl 7 (by decide) (hts (.fieldLink RX8 197 "SkipArchiveModel" "lined" "I") (List.mem_of_getElem? (i := 2) rfl)) (fun _ h9 => h9) rfl dX8_line_127 ?_
        obtain ⟨e0_130, e1_130, e2_130, e3_130⟩ := inj4 hF
        rw [← e0_130, ← e1_130, ← e2_130, ← e3_130] at hQ0
        rw [hQ0]
        exact ret_i hx hb hr hlocks hAe hK hP hD hS [0, 1, 2] rfl rfl dX8_line_130
      · have hF := iff_ hF c_86
        refine lv_aload_n hx hb dX8_line_89 rfl (lv_at hl 0 rfl) ?_
        refine va_get (D := D) (ci := 12) (v := .ref a_t_line) (C := RX8) (T := TX8) (N := 22) hx hb hts iX8_line_X8 hown hK hP 0 rfl rfl 6 (by decide) (hts (.fieldLink RX8 22 "SkipArchiveModel" "line" "[C") (List.mem_of_getElem? (i := 3) rfl)) (fun _ h9 => h9) rfl dX8_line_90 ?_
        refine lv_aload_n hx hb dX8_line_93 rfl (lv_at hl 0 rfl) ?_
        refine lv_dup hx hb dX8_line_94 rfl ?_
        refine va_get (D := D) (ci := 12) (v := .int t_lined_w) (C := RX8) (T := TX8) (N := 22) hx hb hts iX8_line_X8 hown hK hP 0 rfl rfl 7 (by decide) (hts (.fieldLink RX8 197 "SkipArchiveModel" "lined" "I") (List.mem_of_getElem? (i := 2) rfl)) (fun _ h9 => h9) rfl dX8_line_95 ?_
        refine lv_dup_x1 hx hb dX8_line_98 rfl rfl ?_
        refine lv_iconst (v := 1) hx hb dX8_line_99 (by decide) ?_
        refine lv_iadd hx hb dX8_line_100 ?_
        refine va_put (D := D) (ci := 12) (v := .int (t_lined_w + (1 : Int32))) (ty := .int) (C := RX8) (T := TX8) (N := 22) hx hb hts iX8_line_X8 tyX8 tyX8_ok nmX8 hown hK hP hD hS 0 rfl rfl 7 (by decide) (hts (.fieldLink RX8 197 "SkipArchiveModel" "lined" "I") (List.mem_of_getElem? (i := 2) rfl)) (fun _ h9 => h9) rfl (by decide +kernel) rfl rfl (Nat.le_of_ble_eq_true rfl) dX8_line_101 (fun H locs hP hD hS => ?_)
        have hP : va_P D vwCl [(a_t, .inr (12, [.ref a_t_now, .ref a_t_tried, .ref a_t_kept, .int t_undos, .ref a_t_saved, .int t_isSaved, .ref a_t_line, .int (t_lined_w + (1 : Int32)), .ref a_t_text, .int t_length, .int t_at, .int t_order, .ref a_t_told, .int t_fault, .int t_reason, .int t_detail, .int t_index, .int t_answer, .int t_thrown_w, .ref a_t_way, .int t_went, .int t_fell])), (a_t_now, .inl (y 0, 77, .inl t_now)), (a_t_line, .inl (y 1, 120, .inl t_line_w))] H := hP
        have hD : va_D A [(a_t, .inr (12, [.ref a_t_now, .ref a_t_tried, .ref a_t_kept, .int t_undos, .ref a_t_saved, .int t_isSaved, .ref a_t_line, .int (t_lined_w + (1 : Int32)), .ref a_t_text, .int t_length, .int t_at, .int t_order, .ref a_t_told, .int t_fault, .int t_reason, .int t_detail, .int t_index, .int t_answer, .int t_thrown_w, .ref a_t_way, .int t_went, .int t_fell])), (a_t_now, .inl (y 0, 77, .inl t_now)), (a_t_line, .inl (y 1, 120, .inl t_line_w))] := hD
        refine lv_bipush (v := 32) hx hb dX8_line_104 (by decide) ?_
        obtain ⟨g_106, hF⟩ := gi_i hF
        refine va_cast hx hb hK hP hD hS 2 1 rfl rfl g_106 dX8_line_106 (fun H locs hP hD hS => ?_)
        have hP : va_P D vwCl [(a_t, .inr (12, [.ref a_t_now, .ref a_t_tried, .ref a_t_kept, .int t_undos, .ref a_t_saved, .int t_isSaved, .ref a_t_line, .int (t_lined_w + (1 : Int32)), .ref a_t_text, .int t_length, .int t_at, .int t_order, .ref a_t_told, .int t_fault, .int t_reason, .int t_detail, .int t_index, .int t_answer, .int t_thrown_w, .ref a_t_way, .int t_went, .int t_fell])), (a_t_now, .inl (y 0, 77, .inl t_now)), (a_t_line, .inl (y 1, 120, .inl (upd t_line_w t_lined_w.toNatClampNeg (vp_nar .char (32 : Int32)))))] H := hP
        have hD : va_D A [(a_t, .inr (12, [.ref a_t_now, .ref a_t_tried, .ref a_t_kept, .int t_undos, .ref a_t_saved, .int t_isSaved, .ref a_t_line, .int (t_lined_w + (1 : Int32)), .ref a_t_text, .int t_length, .int t_at, .int t_order, .ref a_t_told, .int t_fault, .int t_reason, .int t_detail, .int t_index, .int t_answer, .int t_thrown_w, .ref a_t_way, .int t_went, .int t_fell])), (a_t_now, .inl (y 0, 77, .inl t_now)), (a_t_line, .inl (y 1, 120, .inl (upd t_line_w t_lined_w.toNatClampNeg (vp_nar .char (32 : Int32)))))] := hD
        refine lv_aload_n hx hb dX8_line_107 rfl (lv_at hl 0 rfl) ?_
        refine lv_aload_n hx hb dX8_line_108 rfl (lv_at hl 0 rfl) ?_
        refine lv_iload_n hx hb dX8_line_109 rfl (lv_at hl 2 rfl) ?_
        obtain ⟨r_110, hq_110, hF⟩ := bn_i hF
        refine cr_V (As := [.int x2]) (rest := [.ref a_t]) ⟨hx, hb, hml, hown, hts⟩ (c_X8_key l D y fl a_t a_t_now a_t_tried a_t_kept a_t_saved a_t_line a_t_text a_t_told a_t_way t_undos t_isSaved (t_lined_w + (1 : Int32)) t_length t_at t_order t_fault t_reason t_detail t_index t_answer t_thrown_w t_went t_fell t_now x2 r_110 hq_110) (cwV 1 hts gX8_line_X8_key rfl rfl rfl (by decide +kernel) ⟨Nat.le_of_ble_eq_true rfl, Nat.le_of_ble_eq_true rfl⟩) hK hP [0, 1] rfl rfl rfl rfl hl.1 rfl (Nat.le_of_ble_eq_true rfl) dX8_line_110 ⟨Nat.le_of_ble_eq_true rfl, Nat.le_of_ble_eq_true rfl⟩ ?_
        obtain ⟨t_lined_113, t_line_113, hq_113, hF⟩ := bn2_i hF
        refine cm_Vv (As := [.int r_110]) (rest := []) (wr := [(a_t_now, .inl (y 0, 77, .inl t_now))]) ⟨hx, hb, hml, hown, hts⟩ (c_X8_writesNumber2 l D y fl H.size a_t a_t_now a_t_tried a_t_kept a_t_saved a_t_line a_t_text a_t_told a_t_way t_undos t_isSaved (t_lined_w + (1 : Int32)) t_length t_at t_order t_fault t_reason t_detail t_index t_answer t_thrown_w t_went t_fell (upd t_line_w t_lined_w.toNatClampNeg (vp_nar .char (32 : Int32))) r_110 t_lined_113 t_line_113 hq_113) (cwV 1 hts gX8_line_X8_writesNumber rfl rfl rfl (by decide +kernel) ⟨Nat.le_of_ble_eq_true rfl, Nat.le_of_ble_eq_true rfl⟩) hK hP hD hS hA [0, 2] [1] rfl rfl rfl rfl (by decide) rfl rfl rfl hl.1 rfl (Nat.le_of_ble_eq_true rfl) dX8_line_113 ⟨Nat.le_of_ble_eq_true rfl, Nat.le_of_ble_eq_true rfl⟩ (fun H locs hP hD hS => ?_)
        have hP : va_P D vwCl [(a_t_now, .inl (y 0, 77, .inl t_now)), (a_t, .inr (12, [.ref a_t_now, .ref a_t_tried, .ref a_t_kept, .int t_undos, .ref a_t_saved, .int t_isSaved, .ref a_t_line, .int t_lined_113, .ref a_t_text, .int t_length, .int t_at, .int t_order, .ref a_t_told, .int t_fault, .int t_reason, .int t_detail, .int t_index, .int t_answer, .int t_thrown_w, .ref a_t_way, .int t_went, .int t_fell])), (a_t_line, .inl (y 1, 120, .inl t_line_113))] H := hP
        have hD : va_D A [(a_t_now, .inl (y 0, 77, .inl t_now)), (a_t, .inr (12, [.ref a_t_now, .ref a_t_tried, .ref a_t_kept, .int t_undos, .ref a_t_saved, .int t_isSaved, .ref a_t_line, .int t_lined_113, .ref a_t_text, .int t_length, .int t_at, .int t_order, .ref a_t_told, .int t_fault, .int t_reason, .int t_detail, .int t_index, .int t_answer, .int t_thrown_w, .ref a_t_way, .int t_went, .int t_fell])), (a_t_line, .inl (y 1, 120, .inl t_line_113))] := hD
        refine lv_aload_n hx hb dX8_line_116 rfl (lv_at hl 0 rfl) ?_
        refine lv_iload_n hx hb dX8_line_117 rfl (lv_at hl 2 rfl) ?_
        refine lv_iload_n hx hb dX8_line_118 rfl (lv_at hl 1 rfl) ?_
        obtain ⟨r_119, hq_119, hF⟩ := bn_i hF
        refine cr_V (As := [.int x2, .int x1]) (rest := []) ⟨hx, hb, hml, hown, hts⟩ (c_X8_next l D y fl a_t a_t_now a_t_tried a_t_kept a_t_saved a_t_line a_t_text a_t_told a_t_way t_undos t_isSaved t_lined_113 t_length t_at t_order t_fault t_reason t_detail t_index t_answer t_thrown_w t_went t_fell t_now x2 x1 r_119 hq_119) (cwV 2 hts gX8_line_X8_next rfl rfl rfl (by decide +kernel) ⟨Nat.le_of_ble_eq_true rfl, Nat.le_of_ble_eq_true rfl⟩) hK hP [1, 0] rfl rfl rfl rfl hl.1 rfl (Nat.le_of_ble_eq_true rfl) dX8_line_119 ⟨Nat.le_of_ble_eq_true rfl, Nat.le_of_ble_eq_true rfl⟩ ?_
        refine lv_istore_n (lv' := [(2, .int r_119), (0, .ref a_t), (1, .int x1)]) hx hb dX8_line_122 rfl hl (by decide) rfl (fun ls hl => ?_)
        refine lv_goto (tgt := 79) hx hb dX8_line_123 (by decide) ?_
        exact ih t_lined_113 t_thrown_w t_line_113 x1 r_119 hF _ _ (hP.sub [1, 0, 2] rfl) (hD.sub [1, 0, 2] (by decide) rfl) hS ls (lv_sub hl [1, 2, 0] rfl)
  refine W_entry hav (Nat.le_of_ble_eq_true rfl) (fun ls hl => ?_)
  have hl : lv_has ls 3 [(0, .ref a_t), (1, .int p1)] := hl
  refine lv_aload_n hx hb dX8_line_0 rfl (lv_at hl 0 rfl) ?_
  refine lv_iconst (v := 0) hx hb dX8_line_1 (by decide) ?_
  refine va_put (D := D) (ci := 12) (v := .int (0 : Int32)) (ty := .int) (C := RX8) (T := TX8) (N := 22) hx hb hts iX8_line_X8 tyX8 tyX8_ok nmX8 hown hK hP hD hS 0 rfl rfl 18 (by decide) (hts (.fieldLink RX8 39 "SkipArchiveModel" "thrown" "I") (List.mem_of_getElem? (i := 1) rfl)) (fun _ h9 => h9) rfl (by decide +kernel) rfl rfl (Nat.le_of_ble_eq_true rfl) dX8_line_2 (fun H locs hP hD hS => ?_)
  have hP : va_P D vwCl [(a_t, .inr (12, [.ref a_t_now, .ref a_t_tried, .ref a_t_kept, .int t_undos, .ref a_t_saved, .int t_isSaved, .ref a_t_line, .int t_lined, .ref a_t_text, .int t_length, .int t_at, .int t_order, .ref a_t_told, .int t_fault, .int t_reason, .int t_detail, .int t_index, .int t_answer, .int (0 : Int32), .ref a_t_way, .int t_went, .int t_fell])), (a_t_now, .inl (y 0, 77, .inl t_now)), (a_t_line, .inl (y 1, 120, .inl t_line))] H := hP
  have hD : va_D A [(a_t, .inr (12, [.ref a_t_now, .ref a_t_tried, .ref a_t_kept, .int t_undos, .ref a_t_saved, .int t_isSaved, .ref a_t_line, .int t_lined, .ref a_t_text, .int t_length, .int t_at, .int t_order, .ref a_t_told, .int t_fault, .int t_reason, .int t_detail, .int t_index, .int t_answer, .int (0 : Int32), .ref a_t_way, .int t_went, .int t_fell])), (a_t_now, .inl (y 0, 77, .inl t_now)), (a_t_line, .inl (y 1, 120, .inl t_line))] := hD
  refine lv_iload_n hx hb dX8_line_5 rfl (lv_at hl 1 rfl) ?_
  obtain ⟨r_6, hq_6, hF⟩ := bn_i hF
  refine cr_S (As := [.int p1]) (rest := []) ⟨hx, hb, hml, hown, hts⟩ (c_X8_isLevel l D y fl p1 r_6 hq_6) (va_cwS 1 hts gX8_line_X8_isLevel rfl rfl rfl (by decide +kernel) ⟨Nat.le_of_ble_eq_true rfl, Nat.le_of_ble_eq_true rfl⟩) hK hP [] rfl rfl hl.1 rfl (Nat.le_of_ble_eq_true rfl) dX8_line_6 ⟨Nat.le_of_ble_eq_true rfl, Nat.le_of_ble_eq_true rfl⟩ ?_
  refine lv_if_ne (tgt := 18) hx hb dX8_line_9 (by decide) (fun c_9 => ?_) (fun c_9 => ?_)
  · have hF := iff_ hF c_9
    refine lv_aload_n hx hb dX8_line_18 rfl (lv_at hl 0 rfl) ?_
    refine lv_iconst (v := 0) hx hb dX8_line_19 (by decide) ?_
    refine va_put (D := D) (ci := 12) (v := .int (0 : Int32)) (ty := .int) (C := RX8) (T := TX8) (N := 22) hx hb hts iX8_line_X8 tyX8 tyX8_ok nmX8 hown hK hP hD hS 0 rfl rfl 7 (by decide) (hts (.fieldLink RX8 197 "SkipArchiveModel" "lined" "I") (List.mem_of_getElem? (i := 2) rfl)) (fun _ h9 => h9) rfl (by decide +kernel) rfl rfl (Nat.le_of_ble_eq_true rfl) dX8_line_20 (fun H locs hP hD hS => ?_)
    have hP : va_P D vwCl [(a_t, .inr (12, [.ref a_t_now, .ref a_t_tried, .ref a_t_kept, .int t_undos, .ref a_t_saved, .int t_isSaved, .ref a_t_line, .int (0 : Int32), .ref a_t_text, .int t_length, .int t_at, .int t_order, .ref a_t_told, .int t_fault, .int t_reason, .int t_detail, .int t_index, .int t_answer, .int (0 : Int32), .ref a_t_way, .int t_went, .int t_fell])), (a_t_now, .inl (y 0, 77, .inl t_now)), (a_t_line, .inl (y 1, 120, .inl t_line))] H := hP
    have hD : va_D A [(a_t, .inr (12, [.ref a_t_now, .ref a_t_tried, .ref a_t_kept, .int t_undos, .ref a_t_saved, .int t_isSaved, .ref a_t_line, .int (0 : Int32), .ref a_t_text, .int t_length, .int t_at, .int t_order, .ref a_t_told, .int t_fault, .int t_reason, .int t_detail, .int t_index, .int t_answer, .int (0 : Int32), .ref a_t_way, .int t_went, .int t_fell])), (a_t_now, .inl (y 0, 77, .inl t_now)), (a_t_line, .inl (y 1, 120, .inl t_line))] := hD
    refine lv_aload_n hx hb dX8_line_23 rfl (lv_at hl 0 rfl) ?_
    refine lv_iload_n hx hb dX8_line_24 rfl (lv_at hl 1 rfl) ?_
    obtain ⟨t_lined_25, t_line_25, hq_25, hF⟩ := bn2_i hF
    refine cm_Vv (As := [.int p1]) (rest := []) (wr := [(a_t_now, .inl (y 0, 77, .inl t_now))]) ⟨hx, hb, hml, hown, hts⟩ (c_X8_writesNumber2 l D y fl H.size a_t a_t_now a_t_tried a_t_kept a_t_saved a_t_line a_t_text a_t_told a_t_way t_undos t_isSaved (0 : Int32) t_length t_at t_order t_fault t_reason t_detail t_index t_answer (0 : Int32) t_went t_fell t_line p1 t_lined_25 t_line_25 hq_25) (cwV 1 hts gX8_line_X8_writesNumber rfl rfl rfl (by decide +kernel) ⟨Nat.le_of_ble_eq_true rfl, Nat.le_of_ble_eq_true rfl⟩) hK hP hD hS hA [0, 2] [1] rfl rfl rfl rfl (by decide) rfl rfl rfl hl.1 rfl (Nat.le_of_ble_eq_true rfl) dX8_line_25 ⟨Nat.le_of_ble_eq_true rfl, Nat.le_of_ble_eq_true rfl⟩ (fun H locs hP hD hS => ?_)
    have hP : va_P D vwCl [(a_t_now, .inl (y 0, 77, .inl t_now)), (a_t, .inr (12, [.ref a_t_now, .ref a_t_tried, .ref a_t_kept, .int t_undos, .ref a_t_saved, .int t_isSaved, .ref a_t_line, .int t_lined_25, .ref a_t_text, .int t_length, .int t_at, .int t_order, .ref a_t_told, .int t_fault, .int t_reason, .int t_detail, .int t_index, .int t_answer, .int (0 : Int32), .ref a_t_way, .int t_went, .int t_fell])), (a_t_line, .inl (y 1, 120, .inl t_line_25))] H := hP
    have hD : va_D A [(a_t_now, .inl (y 0, 77, .inl t_now)), (a_t, .inr (12, [.ref a_t_now, .ref a_t_tried, .ref a_t_kept, .int t_undos, .ref a_t_saved, .int t_isSaved, .ref a_t_line, .int t_lined_25, .ref a_t_text, .int t_length, .int t_at, .int t_order, .ref a_t_told, .int t_fault, .int t_reason, .int t_detail, .int t_index, .int t_answer, .int (0 : Int32), .ref a_t_way, .int t_went, .int t_fell])), (a_t_line, .inl (y 1, 120, .inl t_line_25))] := hD
    refine lv_aload_n hx hb dX8_line_28 rfl (lv_at hl 0 rfl) ?_
    refine lv_iload_n hx hb dX8_line_29 rfl (lv_at hl 1 rfl) ?_
    obtain ⟨r_30, hq_30, hF⟩ := bn_i hF
    refine cr_V (As := [.int p1]) (rest := []) ⟨hx, hb, hml, hown, hts⟩ (c_X8_isOut l D y fl a_t a_t_now a_t_tried a_t_kept a_t_saved a_t_line a_t_text a_t_told a_t_way t_undos t_isSaved t_lined_25 t_length t_at t_order t_fault t_reason t_detail t_index t_answer (0 : Int32) t_went t_fell t_now p1 r_30 hq_30) (cwV 1 hts gX8_line_X8_isOut rfl rfl rfl (by decide +kernel) ⟨Nat.le_of_ble_eq_true rfl, Nat.le_of_ble_eq_true rfl⟩) hK hP [1, 0] rfl rfl rfl rfl hl.1 rfl (Nat.le_of_ble_eq_true rfl) dX8_line_30 ⟨Nat.le_of_ble_eq_true rfl, Nat.le_of_ble_eq_true rfl⟩ ?_
    refine lv_if_eq (tgt := 54) hx hb dX8_line_33 (by decide) (fun c_33 => ?_) (fun c_33 => ?_)
    · have hF := ift hF c_33
      refine lv_aload_n hx hb dX8_line_54 rfl (lv_at hl 0 rfl) ?_
      refine va_get (D := D) (ci := 12) (v := .ref a_t_line) (C := RX8) (T := TX8) (N := 22) hx hb hts iX8_line_X8 hown hK hP 1 rfl rfl 6 (by decide) (hts (.fieldLink RX8 22 "SkipArchiveModel" "line" "[C") (List.mem_of_getElem? (i := 3) rfl)) (fun _ h9 => h9) rfl dX8_line_55 ?_
      refine lv_aload_n hx hb dX8_line_58 rfl (lv_at hl 0 rfl) ?_
      refine lv_dup hx hb dX8_line_59 rfl ?_
      refine va_get (D := D) (ci := 12) (v := .int t_lined_25) (C := RX8) (T := TX8) (N := 22) hx hb hts iX8_line_X8 hown hK hP 1 rfl rfl 7 (by decide) (hts (.fieldLink RX8 197 "SkipArchiveModel" "lined" "I") (List.mem_of_getElem? (i := 2) rfl)) (fun _ h9 => h9) rfl dX8_line_60 ?_
      refine lv_dup_x1 hx hb dX8_line_63 rfl rfl ?_
      refine lv_iconst (v := 1) hx hb dX8_line_64 (by decide) ?_
      refine lv_iadd hx hb dX8_line_65 ?_
      refine va_put (D := D) (ci := 12) (v := .int (t_lined_25 + (1 : Int32))) (ty := .int) (C := RX8) (T := TX8) (N := 22) hx hb hts iX8_line_X8 tyX8 tyX8_ok nmX8 hown hK hP hD hS 1 rfl rfl 7 (by decide) (hts (.fieldLink RX8 197 "SkipArchiveModel" "lined" "I") (List.mem_of_getElem? (i := 2) rfl)) (fun _ h9 => h9) rfl (by decide +kernel) rfl rfl (Nat.le_of_ble_eq_true rfl) dX8_line_66 (fun H locs hP hD hS => ?_)
      have hP : va_P D vwCl [(a_t_now, .inl (y 0, 77, .inl t_now)), (a_t, .inr (12, [.ref a_t_now, .ref a_t_tried, .ref a_t_kept, .int t_undos, .ref a_t_saved, .int t_isSaved, .ref a_t_line, .int (t_lined_25 + (1 : Int32)), .ref a_t_text, .int t_length, .int t_at, .int t_order, .ref a_t_told, .int t_fault, .int t_reason, .int t_detail, .int t_index, .int t_answer, .int (0 : Int32), .ref a_t_way, .int t_went, .int t_fell])), (a_t_line, .inl (y 1, 120, .inl t_line_25))] H := hP
      have hD : va_D A [(a_t_now, .inl (y 0, 77, .inl t_now)), (a_t, .inr (12, [.ref a_t_now, .ref a_t_tried, .ref a_t_kept, .int t_undos, .ref a_t_saved, .int t_isSaved, .ref a_t_line, .int (t_lined_25 + (1 : Int32)), .ref a_t_text, .int t_length, .int t_at, .int t_order, .ref a_t_told, .int t_fault, .int t_reason, .int t_detail, .int t_index, .int t_answer, .int (0 : Int32), .ref a_t_way, .int t_went, .int t_fell])), (a_t_line, .inl (y 1, 120, .inl t_line_25))] := hD
      refine lv_bipush (v := 58) hx hb dX8_line_69 (by decide) ?_
      obtain ⟨g_71, hF⟩ := gi_i hF
      refine va_cast hx hb hK hP hD hS 2 1 rfl rfl g_71 dX8_line_71 (fun H locs hP hD hS => ?_)
      have hP : va_P D vwCl [(a_t_now, .inl (y 0, 77, .inl t_now)), (a_t, .inr (12, [.ref a_t_now, .ref a_t_tried, .ref a_t_kept, .int t_undos, .ref a_t_saved, .int t_isSaved, .ref a_t_line, .int (t_lined_25 + (1 : Int32)), .ref a_t_text, .int t_length, .int t_at, .int t_order, .ref a_t_told, .int t_fault, .int t_reason, .int t_detail, .int t_index, .int t_answer, .int (0 : Int32), .ref a_t_way, .int t_went, .int t_fell])), (a_t_line, .inl (y 1, 120, .inl (upd t_line_25 t_lined_25.toNatClampNeg (vp_nar .char (58 : Int32)))))] H := hP
      have hD : va_D A [(a_t_now, .inl (y 0, 77, .inl t_now)), (a_t, .inr (12, [.ref a_t_now, .ref a_t_tried, .ref a_t_kept, .int t_undos, .ref a_t_saved, .int t_isSaved, .ref a_t_line, .int (t_lined_25 + (1 : Int32)), .ref a_t_text, .int t_length, .int t_at, .int t_order, .ref a_t_told, .int t_fault, .int t_reason, .int t_detail, .int t_index, .int t_answer, .int (0 : Int32), .ref a_t_way, .int t_went, .int t_fell])), (a_t_line, .inl (y 1, 120, .inl (upd t_line_25 t_lined_25.toNatClampNeg (vp_nar .char (58 : Int32)))))] := hD
      refine lv_aload_n hx hb dX8_line_72 rfl (lv_at hl 0 rfl) ?_
      refine lv_iconst (v := -1) hx hb dX8_line_73 (by decide) ?_
      refine lv_iload_n hx hb dX8_line_74 rfl (lv_at hl 1 rfl) ?_
      obtain ⟨r_75, hq_75, hF⟩ := bn_i hF
      refine cr_V (As := [.int (-1 : Int32), .int p1]) (rest := []) ⟨hx, hb, hml, hown, hts⟩ (c_X8_next l D y fl a_t a_t_now a_t_tried a_t_kept a_t_saved a_t_line a_t_text a_t_told a_t_way t_undos t_isSaved (t_lined_25 + (1 : Int32)) t_length t_at t_order t_fault t_reason t_detail t_index t_answer (0 : Int32) t_went t_fell t_now (-1 : Int32) p1 r_75 hq_75) (cwV 2 hts gX8_line_X8_next rfl rfl rfl (by decide +kernel) ⟨Nat.le_of_ble_eq_true rfl, Nat.le_of_ble_eq_true rfl⟩) hK hP [1, 0] rfl rfl rfl rfl hl.1 rfl (Nat.le_of_ble_eq_true rfl) dX8_line_75 ⟨Nat.le_of_ble_eq_true rfl, Nat.le_of_ble_eq_true rfl⟩ ?_
      refine lv_istore_n (lv' := [(2, .int r_75), (0, .ref a_t), (1, .int p1)]) hx hb dX8_line_78 rfl hl (by decide) rfl (fun ls hl => ?_)
      exact k_79 fl (t_lined_25 + (1 : Int32)) (0 : Int32) (upd t_line_25 t_lined_25.toNatClampNeg (vp_nar .char (58 : Int32))) p1 r_75 hF _ _ (hP.sub [1, 0, 2] rfl) (hD.sub [1, 0, 2] (by decide) rfl) hS ls (lv_sub hl [1, 2, 0] rfl)
    · have hF := iff_ hF c_33
      refine lv_aload_n hx hb dX8_line_36 rfl (lv_at hl 0 rfl) ?_
      refine va_get (D := D) (ci := 12) (v := .ref a_t_line) (C := RX8) (T := TX8) (N := 22) hx hb hts iX8_line_X8 hown hK hP 1 rfl rfl 6 (by decide) (hts (.fieldLink RX8 22 "SkipArchiveModel" "line" "[C") (List.mem_of_getElem? (i := 3) rfl)) (fun _ h9 => h9) rfl dX8_line_37 ?_
      refine lv_aload_n hx hb dX8_line_40 rfl (lv_at hl 0 rfl) ?_
      refine lv_dup hx hb dX8_line_41 rfl ?_
      refine va_get (D := D) (ci := 12) (v := .int t_lined_25) (C := RX8) (T := TX8) (N := 22) hx hb hts iX8_line_X8 hown hK hP 1 rfl rfl 7 (by decide) (hts (.fieldLink RX8 197 "SkipArchiveModel" "lined" "I") (List.mem_of_getElem? (i := 2) rfl)) (fun _ h9 => h9) rfl dX8_line_42 ?_
      refine lv_dup_x1 hx hb dX8_line_45 rfl rfl ?_
      refine lv_iconst (v := 1) hx hb dX8_line_46 (by decide) ?_
      refine lv_iadd hx hb dX8_line_47 ?_
      refine va_put (D := D) (ci := 12) (v := .int (t_lined_25 + (1 : Int32))) (ty := .int) (C := RX8) (T := TX8) (N := 22) hx hb hts iX8_line_X8 tyX8 tyX8_ok nmX8 hown hK hP hD hS 1 rfl rfl 7 (by decide) (hts (.fieldLink RX8 197 "SkipArchiveModel" "lined" "I") (List.mem_of_getElem? (i := 2) rfl)) (fun _ h9 => h9) rfl (by decide +kernel) rfl rfl (Nat.le_of_ble_eq_true rfl) dX8_line_48 (fun H locs hP hD hS => ?_)
      have hP : va_P D vwCl [(a_t_now, .inl (y 0, 77, .inl t_now)), (a_t, .inr (12, [.ref a_t_now, .ref a_t_tried, .ref a_t_kept, .int t_undos, .ref a_t_saved, .int t_isSaved, .ref a_t_line, .int (t_lined_25 + (1 : Int32)), .ref a_t_text, .int t_length, .int t_at, .int t_order, .ref a_t_told, .int t_fault, .int t_reason, .int t_detail, .int t_index, .int t_answer, .int (0 : Int32), .ref a_t_way, .int t_went, .int t_fell])), (a_t_line, .inl (y 1, 120, .inl t_line_25))] H := hP
      have hD : va_D A [(a_t_now, .inl (y 0, 77, .inl t_now)), (a_t, .inr (12, [.ref a_t_now, .ref a_t_tried, .ref a_t_kept, .int t_undos, .ref a_t_saved, .int t_isSaved, .ref a_t_line, .int (t_lined_25 + (1 : Int32)), .ref a_t_text, .int t_length, .int t_at, .int t_order, .ref a_t_told, .int t_fault, .int t_reason, .int t_detail, .int t_index, .int t_answer, .int (0 : Int32), .ref a_t_way, .int t_went, .int t_fell])), (a_t_line, .inl (y 1, 120, .inl t_line_25))] := hD
      refine lv_bipush (v := 33) hx hb dX8_line_51 (by decide) ?_
      obtain ⟨g_53, hF⟩ := gi_i hF
      refine va_cast hx hb hK hP hD hS 2 1 rfl rfl g_53 dX8_line_53 (fun H locs hP hD hS => ?_)
      have hP : va_P D vwCl [(a_t_now, .inl (y 0, 77, .inl t_now)), (a_t, .inr (12, [.ref a_t_now, .ref a_t_tried, .ref a_t_kept, .int t_undos, .ref a_t_saved, .int t_isSaved, .ref a_t_line, .int (t_lined_25 + (1 : Int32)), .ref a_t_text, .int t_length, .int t_at, .int t_order, .ref a_t_told, .int t_fault, .int t_reason, .int t_detail, .int t_index, .int t_answer, .int (0 : Int32), .ref a_t_way, .int t_went, .int t_fell])), (a_t_line, .inl (y 1, 120, .inl (upd t_line_25 t_lined_25.toNatClampNeg (vp_nar .char (33 : Int32)))))] H := hP
      have hD : va_D A [(a_t_now, .inl (y 0, 77, .inl t_now)), (a_t, .inr (12, [.ref a_t_now, .ref a_t_tried, .ref a_t_kept, .int t_undos, .ref a_t_saved, .int t_isSaved, .ref a_t_line, .int (t_lined_25 + (1 : Int32)), .ref a_t_text, .int t_length, .int t_at, .int t_order, .ref a_t_told, .int t_fault, .int t_reason, .int t_detail, .int t_index, .int t_answer, .int (0 : Int32), .ref a_t_way, .int t_went, .int t_fell])), (a_t_line, .inl (y 1, 120, .inl (upd t_line_25 t_lined_25.toNatClampNeg (vp_nar .char (33 : Int32)))))] := hD
      refine lv_aload_n hx hb dX8_line_54 rfl (lv_at hl 0 rfl) ?_
      refine va_get (D := D) (ci := 12) (v := .ref a_t_line) (C := RX8) (T := TX8) (N := 22) hx hb hts iX8_line_X8 hown hK hP 1 rfl rfl 6 (by decide) (hts (.fieldLink RX8 22 "SkipArchiveModel" "line" "[C") (List.mem_of_getElem? (i := 3) rfl)) (fun _ h9 => h9) rfl dX8_line_55 ?_
      refine lv_aload_n hx hb dX8_line_58 rfl (lv_at hl 0 rfl) ?_
      refine lv_dup hx hb dX8_line_59 rfl ?_
      refine va_get (D := D) (ci := 12) (v := .int (t_lined_25 + (1 : Int32))) (C := RX8) (T := TX8) (N := 22) hx hb hts iX8_line_X8 hown hK hP 1 rfl rfl 7 (by decide) (hts (.fieldLink RX8 197 "SkipArchiveModel" "lined" "I") (List.mem_of_getElem? (i := 2) rfl)) (fun _ h9 => h9) rfl dX8_line_60 ?_
      refine lv_dup_x1 hx hb dX8_line_63 rfl rfl ?_
      refine lv_iconst (v := 1) hx hb dX8_line_64 (by decide) ?_
      refine lv_iadd hx hb dX8_line_65 ?_
      refine va_put (D := D) (ci := 12) (v := .int ((t_lined_25 + (1 : Int32)) + (1 : Int32))) (ty := .int) (C := RX8) (T := TX8) (N := 22) hx hb hts iX8_line_X8 tyX8 tyX8_ok nmX8 hown hK hP hD hS 1 rfl rfl 7 (by decide) (hts (.fieldLink RX8 197 "SkipArchiveModel" "lined" "I") (List.mem_of_getElem? (i := 2) rfl)) (fun _ h9 => h9) rfl (by decide +kernel) rfl rfl (Nat.le_of_ble_eq_true rfl) dX8_line_66 (fun H locs hP hD hS => ?_)
      have hP : va_P D vwCl [(a_t_now, .inl (y 0, 77, .inl t_now)), (a_t, .inr (12, [.ref a_t_now, .ref a_t_tried, .ref a_t_kept, .int t_undos, .ref a_t_saved, .int t_isSaved, .ref a_t_line, .int ((t_lined_25 + (1 : Int32)) + (1 : Int32)), .ref a_t_text, .int t_length, .int t_at, .int t_order, .ref a_t_told, .int t_fault, .int t_reason, .int t_detail, .int t_index, .int t_answer, .int (0 : Int32), .ref a_t_way, .int t_went, .int t_fell])), (a_t_line, .inl (y 1, 120, .inl (upd t_line_25 t_lined_25.toNatClampNeg (vp_nar .char (33 : Int32)))))] H := hP
      have hD : va_D A [(a_t_now, .inl (y 0, 77, .inl t_now)), (a_t, .inr (12, [.ref a_t_now, .ref a_t_tried, .ref a_t_kept, .int t_undos, .ref a_t_saved, .int t_isSaved, .ref a_t_line, .int ((t_lined_25 + (1 : Int32)) + (1 : Int32)), .ref a_t_text, .int t_length, .int t_at, .int t_order, .ref a_t_told, .int t_fault, .int t_reason, .int t_detail, .int t_index, .int t_answer, .int (0 : Int32), .ref a_t_way, .int t_went, .int t_fell])), (a_t_line, .inl (y 1, 120, .inl (upd t_line_25 t_lined_25.toNatClampNeg (vp_nar .char (33 : Int32)))))] := hD
      refine lv_bipush (v := 58) hx hb dX8_line_69 (by decide) ?_
      obtain ⟨g_71b, hF⟩ := gi_i hF
      refine va_cast hx hb hK hP hD hS 2 1 rfl rfl g_71b dX8_line_71 (fun H locs hP hD hS => ?_)
      have hP : va_P D vwCl [(a_t_now, .inl (y 0, 77, .inl t_now)), (a_t, .inr (12, [.ref a_t_now, .ref a_t_tried, .ref a_t_kept, .int t_undos, .ref a_t_saved, .int t_isSaved, .ref a_t_line, .int ((t_lined_25 + (1 : Int32)) + (1 : Int32)), .ref a_t_text, .int t_length, .int t_at, .int t_order, .ref a_t_told, .int t_fault, .int t_reason, .int t_detail, .int t_index, .int t_answer, .int (0 : Int32), .ref a_t_way, .int t_went, .int t_fell])), (a_t_line, .inl (y 1, 120, .inl (upd (upd t_line_25 t_lined_25.toNatClampNeg (vp_nar .char (33 : Int32))) (t_lined_25 + (1 : Int32)).toNatClampNeg (vp_nar .char (58 : Int32)))))] H := hP
      have hD : va_D A [(a_t_now, .inl (y 0, 77, .inl t_now)), (a_t, .inr (12, [.ref a_t_now, .ref a_t_tried, .ref a_t_kept, .int t_undos, .ref a_t_saved, .int t_isSaved, .ref a_t_line, .int ((t_lined_25 + (1 : Int32)) + (1 : Int32)), .ref a_t_text, .int t_length, .int t_at, .int t_order, .ref a_t_told, .int t_fault, .int t_reason, .int t_detail, .int t_index, .int t_answer, .int (0 : Int32), .ref a_t_way, .int t_went, .int t_fell])), (a_t_line, .inl (y 1, 120, .inl (upd (upd t_line_25 t_lined_25.toNatClampNeg (vp_nar .char (33 : Int32))) (t_lined_25 + (1 : Int32)).toNatClampNeg (vp_nar .char (58 : Int32)))))] := hD
      refine lv_aload_n hx hb dX8_line_72 rfl (lv_at hl 0 rfl) ?_
      refine lv_iconst (v := -1) hx hb dX8_line_73 (by decide) ?_
      refine lv_iload_n hx hb dX8_line_74 rfl (lv_at hl 1 rfl) ?_
      obtain ⟨r_75b, hq_75b, hF⟩ := bn_i hF
      refine cr_V (As := [.int (-1 : Int32), .int p1]) (rest := []) ⟨hx, hb, hml, hown, hts⟩ (c_X8_next l D y fl a_t a_t_now a_t_tried a_t_kept a_t_saved a_t_line a_t_text a_t_told a_t_way t_undos t_isSaved ((t_lined_25 + (1 : Int32)) + (1 : Int32)) t_length t_at t_order t_fault t_reason t_detail t_index t_answer (0 : Int32) t_went t_fell t_now (-1 : Int32) p1 r_75b hq_75b) (cwV 2 hts gX8_line_X8_next rfl rfl rfl (by decide +kernel) ⟨Nat.le_of_ble_eq_true rfl, Nat.le_of_ble_eq_true rfl⟩) hK hP [1, 0] rfl rfl rfl rfl hl.1 rfl (Nat.le_of_ble_eq_true rfl) dX8_line_75 ⟨Nat.le_of_ble_eq_true rfl, Nat.le_of_ble_eq_true rfl⟩ ?_
      refine lv_istore_n (lv' := [(2, .int r_75b), (0, .ref a_t), (1, .int p1)]) hx hb dX8_line_78 rfl hl (by decide) rfl (fun ls hl => ?_)
      exact k_79 fl ((t_lined_25 + (1 : Int32)) + (1 : Int32)) (0 : Int32) (upd (upd t_line_25 t_lined_25.toNatClampNeg (vp_nar .char (33 : Int32))) (t_lined_25 + (1 : Int32)).toNatClampNeg (vp_nar .char (58 : Int32))) p1 r_75b hF _ _ (hP.sub [1, 0, 2] rfl) (hD.sub [1, 0, 2] (by decide) rfl) hS ls (lv_sub hl [1, 2, 0] rfl)
  · have hF := ift hF c_9
    refine lv_aload_n hx hb dX8_line_12 rfl (lv_at hl 0 rfl) ?_
    refine lv_iconst (v := 1) hx hb dX8_line_13 (by decide) ?_
    obtain ⟨r_14, t_thrown_14, hq_14, hF⟩ := bn2_i hF
    refine cm_Vi (As := [.int (1 : Int32)]) (rest := []) (wr := [(a_t_now, .inl (y 0, 77, .inl t_now)), (a_t_line, .inl (y 1, 120, .inl t_line))]) ⟨hx, hb, hml, hown, hts⟩ (c_X8_raises l D y fl H.size a_t a_t_now a_t_tried a_t_kept a_t_saved a_t_line a_t_text a_t_told a_t_way t_undos t_isSaved t_lined t_length t_at t_order t_fault t_reason t_detail t_index t_answer (0 : Int32) t_went t_fell (1 : Int32) r_14 t_thrown_14 hq_14) (cwV 1 hts gX8_line_X8_raises rfl rfl rfl (by decide +kernel) ⟨Nat.le_of_ble_eq_true rfl, Nat.le_of_ble_eq_true rfl⟩) hK hP hD hS hA [0] [1, 2] rfl rfl rfl rfl (by decide) rfl rfl rfl hl.1 rfl (Nat.le_of_ble_eq_true rfl) dX8_line_14 ⟨Nat.le_of_ble_eq_true rfl, Nat.le_of_ble_eq_true rfl⟩ (fun H locs hP hD hS => ?_)
    have hP : va_P D vwCl [(a_t_now, .inl (y 0, 77, .inl t_now)), (a_t_line, .inl (y 1, 120, .inl t_line)), (a_t, .inr (12, [.ref a_t_now, .ref a_t_tried, .ref a_t_kept, .int t_undos, .ref a_t_saved, .int t_isSaved, .ref a_t_line, .int t_lined, .ref a_t_text, .int t_length, .int t_at, .int t_order, .ref a_t_told, .int t_fault, .int t_reason, .int t_detail, .int t_index, .int t_answer, .int t_thrown_14, .ref a_t_way, .int t_went, .int t_fell]))] H := hP
    have hD : va_D A [(a_t_now, .inl (y 0, 77, .inl t_now)), (a_t_line, .inl (y 1, 120, .inl t_line)), (a_t, .inr (12, [.ref a_t_now, .ref a_t_tried, .ref a_t_kept, .int t_undos, .ref a_t_saved, .int t_isSaved, .ref a_t_line, .int t_lined, .ref a_t_text, .int t_length, .int t_at, .int t_order, .ref a_t_told, .int t_fault, .int t_reason, .int t_detail, .int t_index, .int t_answer, .int t_thrown_14, .ref a_t_way, .int t_went, .int t_fell]))] := hD
    obtain ⟨e0_17, e1_17, e2_17, e3_17⟩ := inj4 hF
    rw [← e0_17, ← e1_17, ← e2_17, ← e3_17] at hQ0
    rw [hQ0]
    exact ret_i hx hb hr hlocks hAe hK hP hD hS [2, 0, 1] rfl rfl dX8_line_17
def F_X8_character (fl : Nat) (t_lined : Int32) (t_thrown : Int32) (t_line : Nat → Int32) (p1 : Int32) : Option (Int32 × Int32) := bn (F_X8_in fl p1 (0 : Int32) (t_lined - (1 : Int32))) fun r_9 => if r_9 = 0 then (if (1 : Int32) = 0 then (gi p1 120 (gd (okC (t_line p1.toNatClampNeg) = true) (some (t_line p1.toNatClampNeg, (1 : Int32))))) else (gd (okC (97 : Int32) = true) (some ((97 : Int32), (1 : Int32))))) else (if (0 : Int32) = 0 then (gi p1 120 (gd (okC (t_line p1.toNatClampNeg) = true) (some (t_line p1.toNatClampNeg, (0 : Int32))))) else (gd (okC (97 : Int32) = true) (some ((97 : Int32), (0 : Int32)))))
theorem iX8_character_X8 : ∀ w ∈ u_ws RX8 TX8 22, w ∈ wsX8_character := fun w h => List.mem_cons_of_mem _ (List.mem_append_left _ (List.mem_append_right _ h))
set_option maxHeartbeats 4000000 in
set_option maxRecDepth 100000 in
theorem c_X8_character (l : Launch) (D : va_G) (y : Nat → ClassId) (fl : Nat) (sz : Nat) (a_t : Nat) (a_t_now : Nat) (a_t_tried : Nat) (a_t_kept : Nat) (a_t_saved : Nat) (a_t_line : Nat) (a_t_text : Nat) (a_t_told : Nat) (a_t_way : Nat) (t_undos : Int32) (t_isSaved : Int32) (t_lined : Int32) (t_length : Int32) (t_at : Int32) (t_order : Int32) (t_fault : Int32) (t_reason : Int32) (t_detail : Int32) (t_index : Int32) (t_answer : Int32) (t_thrown : Int32) (t_went : Int32) (t_fell : Int32) (t_line : Nat → Int32) (p1 : Int32) (r : Int32) (t_thrown' : Int32) (hF : F_X8_character fl t_lined t_thrown t_line p1 = some (r, t_thrown')) : Met l yX8_character wsX8_character (rmq 1 22) (wrP D y [(a_t, .inr (12, [.ref a_t_now, .ref a_t_tried, .ref a_t_kept, .int t_undos, .ref a_t_saved, .int t_isSaved, .ref a_t_line, .int t_lined, .ref a_t_text, .int t_length, .int t_at, .int t_order, .ref a_t_told, .int t_fault, .int t_reason, .int t_detail, .int t_index, .int t_answer, .int t_thrown, .ref a_t_way, .int t_went, .int t_fell])), (a_t_line, .inl (y 1, 120, .inl t_line))] sz [.ref a_t, .int p1]) (wQi D y r [(a_t, .inr (12, [.ref a_t_now, .ref a_t_tried, .ref a_t_kept, .int t_undos, .ref a_t_saved, .int t_isSaved, .ref a_t_line, .int t_lined, .ref a_t_text, .int t_length, .int t_at, .int t_order, .ref a_t_told, .int t_fault, .int t_reason, .int t_detail, .int t_index, .int t_answer, .int t_thrown', .ref a_t_way, .int t_went, .int t_fell])), (a_t_line, .inl (y 1, 120, .inl t_line))] [(a_t, .inr (12, [.ref a_t_now, .ref a_t_tried, .ref a_t_kept, .int t_undos, .ref a_t_saved, .int t_isSaved, .ref a_t_line, .int t_lined, .ref a_t_text, .int t_length, .int t_at, .int t_order, .ref a_t_told, .int t_fault, .int t_reason, .int t_detail, .int t_index, .int t_answer, .int t_thrown, .ref a_t_way, .int t_went, .int t_fell])), (a_t_line, .inl (y 1, 120, .inl t_line))] sz) 0 0 (va_A [(a_t, .inr (12, [.ref a_t_now, .ref a_t_tried, .ref a_t_kept, .int t_undos, .ref a_t_saved, .int t_isSaved, .ref a_t_line, .int t_lined, .ref a_t_text, .int t_length, .int t_at, .int t_order, .ref a_t_told, .int t_fault, .int t_reason, .int t_detail, .int t_index, .int t_answer, .int t_thrown, .ref a_t_way, .int t_went, .int t_fell])), (a_t_line, .inl (y 1, 120, .inl t_line))] sz) := by
  refine Met.ofW (cc := cX8_character) (maxL := 2) (ret := (some .char)) (by decide) rfl ?_
  intro p e s m args below meth c s₁ B hml hv
  obtain ⟨hav, hsz, hP, hK, hD0⟩ := hv
  have hx := B.exec
  have hb := B.bytes
  have hr := B.returns
  have hts := atoms_spec (ws := wsX8_character) B.pre
  have hown : s.vm.findClass RX8 = some m.cls := findClass_of_methodNamed B.named
  have hlocks := B.notSynchronized
  subst hsz
  have hD := hD0.self (sz := s.heap.size)
  obtain ⟨A, hAe⟩ : ∃ A : Nat → Prop, va_A [(a_t, .inr (12, [.ref a_t_now, .ref a_t_tried, .ref a_t_kept, .int t_undos, .ref a_t_saved, .int t_isSaved, .ref a_t_line, .int t_lined, .ref a_t_text, .int t_length, .int t_at, .int t_order, .ref a_t_told, .int t_fault, .int t_reason, .int t_detail, .int t_index, .int t_answer, .int t_thrown, .ref a_t_way, .int t_went, .int t_fell])), (a_t_line, .inl (y 1, 120, .inl t_line))] s.heap.size = A := ⟨_, rfl⟩
  rw [hAe] at hD
  have hA : ∀ q, s.heap.size ≤ q → A q := fun q h => by rw [← hAe]; exact Or.inr h
  have hS : va_S A s.heap s.heap [] := va_S.rf
  refine W_q (R1 := (rmq 1 22)) rfl (fun Q0 hQ0 => ?_)
  unfold F_X8_character at hF
  refine W_entry hav (Nat.le_of_ble_eq_true rfl) (fun ls hl => ?_)
  have hl : lv_has ls 2 [(0, .ref a_t), (1, .int p1)] := hl
  refine lv_aload_n hx hb dX8_character_0 rfl (lv_at hl 0 rfl) ?_
  refine lv_iload_n hx hb dX8_character_1 rfl (lv_at hl 1 rfl) ?_
  refine lv_iconst (v := 0) hx hb dX8_character_2 (by decide) ?_
  refine lv_aload_n hx hb dX8_character_3 rfl (lv_at hl 0 rfl) ?_
  refine va_get (D := D) (ci := 12) (v := .int t_lined) (C := RX8) (T := TX8) (N := 22) hx hb hts iX8_character_X8 hown hK hP 0 rfl rfl 7 (by decide) (hts (.fieldLink RX8 197 "SkipArchiveModel" "lined" "I") (List.mem_of_getElem? (i := 1) rfl)) (fun _ h9 => h9) rfl dX8_character_4 ?_
  refine lv_iconst (v := 1) hx hb dX8_character_7 (by decide) ?_
  refine lv_isub hx hb dX8_character_8 ?_
  obtain ⟨r_9, hq_9, hF⟩ := bn_i hF
  refine cr_S (As := [.int p1, .int (0 : Int32), .int (t_lined - (1 : Int32))]) (rest := [.ref a_t]) ⟨hx, hb, hml, hown, hts⟩ (c_X8_in l D y fl p1 (0 : Int32) (t_lined - (1 : Int32)) r_9 hq_9) (va_cwS 3 hts gX8_character_X8_in rfl rfl rfl (by decide +kernel) ⟨Nat.le_of_ble_eq_true rfl, Nat.le_of_ble_eq_true rfl⟩) hK hP [] rfl rfl hl.1 rfl (Nat.le_of_ble_eq_true rfl) dX8_character_9 ⟨Nat.le_of_ble_eq_true rfl, Nat.le_of_ble_eq_true rfl⟩ ?_
  refine lv_if_eq (tgt := 19) hx hb dX8_character_12 (by decide) (fun c_12 => ?_) (fun c_12 => ?_)
  · have hF := ift hF c_12
    refine lv_iconst (v := 1) hx hb dX8_character_19 (by decide) ?_
    refine va_put (D := D) (ci := 12) (v := .int (1 : Int32)) (ty := .int) (C := RX8) (T := TX8) (N := 22) hx hb hts iX8_character_X8 tyX8 tyX8_ok nmX8 hown hK hP hD hS 0 rfl rfl 18 (by decide) (hts (.fieldLink RX8 39 "SkipArchiveModel" "thrown" "I") (List.mem_of_getElem? (i := 2) rfl)) (fun _ h9 => h9) rfl (by decide +kernel) rfl rfl (Nat.le_of_ble_eq_true rfl) dX8_character_20 (fun H locs hP hD hS => ?_)
    have hP : va_P D vwCl [(a_t, .inr (12, [.ref a_t_now, .ref a_t_tried, .ref a_t_kept, .int t_undos, .ref a_t_saved, .int t_isSaved, .ref a_t_line, .int t_lined, .ref a_t_text, .int t_length, .int t_at, .int t_order, .ref a_t_told, .int t_fault, .int t_reason, .int t_detail, .int t_index, .int t_answer, .int (1 : Int32), .ref a_t_way, .int t_went, .int t_fell])), (a_t_line, .inl (y 1, 120, .inl t_line))] H := hP
    have hD : va_D A [(a_t, .inr (12, [.ref a_t_now, .ref a_t_tried, .ref a_t_kept, .int t_undos, .ref a_t_saved, .int t_isSaved, .ref a_t_line, .int t_lined, .ref a_t_text, .int t_length, .int t_at, .int t_order, .ref a_t_told, .int t_fault, .int t_reason, .int t_detail, .int t_index, .int t_answer, .int (1 : Int32), .ref a_t_way, .int t_went, .int t_fell])), (a_t_line, .inl (y 1, 120, .inl t_line))] := hD
    refine lv_aload_n hx hb dX8_character_23 rfl (lv_at hl 0 rfl) ?_
    refine va_get (D := D) (ci := 12) (v := .int (1 : Int32)) (C := RX8) (T := TX8) (N := 22) hx hb hts iX8_character_X8 hown hK hP 0 rfl rfl 18 (by decide) (hts (.fieldLink RX8 39 "SkipArchiveModel" "thrown" "I") (List.mem_of_getElem? (i := 2) rfl)) (fun _ h9 => h9) rfl dX8_character_24 ?_
    refine lv_if_ne (tgt := 39) hx hb dX8_character_27 (by decide) (fun c_27 => ?_) (fun c_27 => ?_)
    · have hF := iff_ hF c_27
      refine lv_bipush (v := 97) hx hb dX8_character_39 (by decide) ?_
      obtain ⟨g_41, hF⟩ := gd_i hF
      obtain ⟨e0_41, e1_41⟩ := inj2 hF
      rw [← e0_41, ← e1_41] at hQ0
      rw [hQ0]
      exact ret_z hx hb hr (okC_n g_41).1 hlocks hAe hK hP hD hS [0, 1] rfl rfl dX8_character_41
    · have hF := ift hF c_27
      refine lv_aload_n hx hb dX8_character_30 rfl (lv_at hl 0 rfl) ?_
      refine va_get (D := D) (ci := 12) (v := .ref a_t_line) (C := RX8) (T := TX8) (N := 22) hx hb hts iX8_character_X8 hown hK hP 0 rfl rfl 6 (by decide) (hts (.fieldLink RX8 22 "SkipArchiveModel" "line" "[C") (List.mem_of_getElem? (i := 3) rfl)) (fun _ h9 => h9) rfl dX8_character_31 ?_
      refine lv_iload_n hx hb dX8_character_34 rfl (lv_at hl 1 rfl) ?_
      obtain ⟨g_35, hF⟩ := gi_i hF
      refine va_cald hx hb hK hP 1 1 rfl rfl g_35 dX8_character_35 ?_
      refine lv_goto (tgt := 41) hx hb dX8_character_36 (by decide) ?_
      obtain ⟨g_41b, hF⟩ := gd_i hF
      obtain ⟨e0_41, e1_41⟩ := inj2 hF
      rw [← e0_41, ← e1_41] at hQ0
      rw [hQ0]
      exact ret_z hx hb hr (okC_n g_41b).1 hlocks hAe hK hP hD hS [0, 1] rfl rfl dX8_character_41
  · have hF := iff_ hF c_12
    refine lv_iconst (v := 0) hx hb dX8_character_15 (by decide) ?_
    refine lv_goto (tgt := 20) hx hb dX8_character_16 (by decide) ?_
    refine va_put (D := D) (ci := 12) (v := .int (0 : Int32)) (ty := .int) (C := RX8) (T := TX8) (N := 22) hx hb hts iX8_character_X8 tyX8 tyX8_ok nmX8 hown hK hP hD hS 0 rfl rfl 18 (by decide) (hts (.fieldLink RX8 39 "SkipArchiveModel" "thrown" "I") (List.mem_of_getElem? (i := 2) rfl)) (fun _ h9 => h9) rfl (by decide +kernel) rfl rfl (Nat.le_of_ble_eq_true rfl) dX8_character_20 (fun H locs hP hD hS => ?_)
    have hP : va_P D vwCl [(a_t, .inr (12, [.ref a_t_now, .ref a_t_tried, .ref a_t_kept, .int t_undos, .ref a_t_saved, .int t_isSaved, .ref a_t_line, .int t_lined, .ref a_t_text, .int t_length, .int t_at, .int t_order, .ref a_t_told, .int t_fault, .int t_reason, .int t_detail, .int t_index, .int t_answer, .int (0 : Int32), .ref a_t_way, .int t_went, .int t_fell])), (a_t_line, .inl (y 1, 120, .inl t_line))] H := hP
    have hD : va_D A [(a_t, .inr (12, [.ref a_t_now, .ref a_t_tried, .ref a_t_kept, .int t_undos, .ref a_t_saved, .int t_isSaved, .ref a_t_line, .int t_lined, .ref a_t_text, .int t_length, .int t_at, .int t_order, .ref a_t_told, .int t_fault, .int t_reason, .int t_detail, .int t_index, .int t_answer, .int (0 : Int32), .ref a_t_way, .int t_went, .int t_fell])), (a_t_line, .inl (y 1, 120, .inl t_line))] := hD
    refine lv_aload_n hx hb dX8_character_23 rfl (lv_at hl 0 rfl) ?_
    refine va_get (D := D) (ci := 12) (v := .int (0 : Int32)) (C := RX8) (T := TX8) (N := 22) hx hb hts iX8_character_X8 hown hK hP 0 rfl rfl 18 (by decide) (hts (.fieldLink RX8 39 "SkipArchiveModel" "thrown" "I") (List.mem_of_getElem? (i := 2) rfl)) (fun _ h9 => h9) rfl dX8_character_24 ?_
    refine lv_if_ne (tgt := 39) hx hb dX8_character_27 (by decide) (fun c_27b => ?_) (fun c_27b => ?_)
    · have hF := iff_ hF c_27b
      refine lv_bipush (v := 97) hx hb dX8_character_39 (by decide) ?_
      obtain ⟨g_41bb, hF⟩ := gd_i hF
      obtain ⟨e0_41, e1_41⟩ := inj2 hF
      rw [← e0_41, ← e1_41] at hQ0
      rw [hQ0]
      exact ret_z hx hb hr (okC_n g_41bb).1 hlocks hAe hK hP hD hS [0, 1] rfl rfl dX8_character_41
    · have hF := ift hF c_27b
      refine lv_aload_n hx hb dX8_character_30 rfl (lv_at hl 0 rfl) ?_
      refine va_get (D := D) (ci := 12) (v := .ref a_t_line) (C := RX8) (T := TX8) (N := 22) hx hb hts iX8_character_X8 hown hK hP 0 rfl rfl 6 (by decide) (hts (.fieldLink RX8 22 "SkipArchiveModel" "line" "[C") (List.mem_of_getElem? (i := 3) rfl)) (fun _ h9 => h9) rfl dX8_character_31 ?_
      refine lv_iload_n hx hb dX8_character_34 rfl (lv_at hl 1 rfl) ?_
      obtain ⟨g_35b, hF⟩ := gi_i hF
      refine va_cald hx hb hK hP 1 1 rfl rfl g_35b dX8_character_35 ?_
      refine lv_goto (tgt := 41) hx hb dX8_character_36 (by decide) ?_
      obtain ⟨g_41bbb, hF⟩ := gd_i hF
      obtain ⟨e0_41, e1_41⟩ := inj2 hF
      rw [← e0_41, ← e1_41] at hQ0
      rw [hQ0]
      exact ret_z hx hb hr (okC_n g_41bbb).1 hlocks hAe hK hP hD hS [0, 1] rfl rfl dX8_character_41
def F_X8_allRungs_4 (fl : Nat) (t_now : Nat → Int32) : Nat → Int32 → Int32 → Option (Int32)
  | 0, _, _ => none
  | n + 1, x1, x2 => gi (0 : Int32) 77 (if (t_now (0 : Int32).toNatClampNeg) ≤ x2 then (some x1) else (bn (F_X8_rungs fl t_now x2) fun r_17 => F_X8_allRungs_4 fl t_now n (x1 + r_17) (x2 + (1 : Int32))))
def F_X8_allRungs (fl : Nat) (t_now : Nat → Int32) : Option (Int32) := F_X8_allRungs_4 fl t_now fl (0 : Int32) (0 : Int32)
theorem iX8_allRungs_X8 : ∀ w ∈ u_ws RX8 TX8 22, w ∈ wsX8_allRungs := fun w h => List.mem_cons_of_mem _ (List.mem_append_left _ (List.mem_append_right _ h))
set_option maxHeartbeats 4000000 in
set_option maxRecDepth 100000 in
theorem c_X8_allRungs (l : Launch) (D : va_G) (y : Nat → ClassId) (fl : Nat) (a_t : Nat) (a_t_now : Nat) (a_t_tried : Nat) (a_t_kept : Nat) (a_t_saved : Nat) (a_t_line : Nat) (a_t_text : Nat) (a_t_told : Nat) (a_t_way : Nat) (t_undos : Int32) (t_isSaved : Int32) (t_lined : Int32) (t_length : Int32) (t_at : Int32) (t_order : Int32) (t_fault : Int32) (t_reason : Int32) (t_detail : Int32) (t_index : Int32) (t_answer : Int32) (t_thrown : Int32) (t_went : Int32) (t_fell : Int32) (t_now : Nat → Int32) (r : Int32) (hF : F_X8_allRungs fl t_now = some r) : Met l yX8_allRungs wsX8_allRungs (rmq 1 21) (rdP D y [(a_t, .inr (12, [.ref a_t_now, .ref a_t_tried, .ref a_t_kept, .int t_undos, .ref a_t_saved, .int t_isSaved, .ref a_t_line, .int t_lined, .ref a_t_text, .int t_length, .int t_at, .int t_order, .ref a_t_told, .int t_fault, .int t_reason, .int t_detail, .int t_index, .int t_answer, .int t_thrown, .ref a_t_way, .int t_went, .int t_fell])), (a_t_now, .inl (y 0, 77, .inl t_now))] [.ref a_t]) (QcRead r) 0 0 (fun _ => False) := by
  refine Met.ofW (cc := cX8_allRungs) (maxL := 3) (ret := (some .int)) (by decide) rfl ?_
  intro p e s m args below meth c s₁ B hml hv
  obtain ⟨hav, hP, hK⟩ := hv
  have hx := B.exec
  have hb := B.bytes
  have hr := B.returns
  have hts := atoms_spec (ws := wsX8_allRungs) B.pre
  have hown : s.vm.findClass RX8 = some m.cls := findClass_of_methodNamed B.named
  have hlocks := B.notSynchronized
  refine W_q (R1 := (rmq 1 21)) rfl (fun Q0 hQ0 => ?_)
  unfold F_X8_allRungs at hF
  have k_4 : ∀ (n : Nat) (x1 : Int32) (x2 : Int32), F_X8_allRungs_4 fl t_now n x1 x2 = some r → ∀ (ls : Array Slot), lv_has ls 3 [(0, .ref a_t), (1, .int x1), (2, .int x2)] → W p l e (rmq 1 21) s m args below meth c s.heap [] 0 0 Q0 (F0 m 4 ls []) := by
    intro n
    induction n with
    | zero => intro x1 x2 hF; rw [F_X8_allRungs_4] at hF; cases hF
    | succ n ih =>
      intro x1 x2 hF ls hl
      rw [F_X8_allRungs_4] at hF
      refine lv_iload_n hx hb dX8_allRungs_4 rfl (lv_at hl 2 rfl) ?_
      refine lv_aload_n hx hb dX8_allRungs_5 rfl (lv_at hl 0 rfl) ?_
      refine va_get (D := D) (ci := 12) (v := .ref a_t_now) (C := RX8) (T := TX8) (N := 22) hx hb hts iX8_allRungs_X8 hown hK hP 0 rfl rfl 0 (by decide) (hts (.fieldLink RX8 9 "SkipArchiveModel" "now" "[I") (List.mem_of_getElem? (i := 1) rfl)) (fun _ h9 => h9) rfl dX8_allRungs_6 ?_
      refine lv_iconst (v := 0) hx hb dX8_allRungs_9 (by decide) ?_
      obtain ⟨g_10, hF⟩ := gi_i hF
      refine va_iald hx hb hK hP 1 0 rfl rfl g_10 dX8_allRungs_10 ?_
      refine lv_icmp_ge (tgt := 28) hx hb dX8_allRungs_11 (by decide) (fun c_11 => ?_) (fun c_11 => ?_)
      · have hF := ift hF c_11
        refine lv_iload_n hx hb dX8_allRungs_28 rfl (lv_at hl 1 rfl) ?_
        obtain e0_29 := inj1 hF
        rw [← e0_29] at hQ0
        rw [hQ0]
        exact W.iret (v := x1) hx hb hr (fun t ht hW => ⟨rfl, ht⟩) (fun _ h => nomatch h) dX8_allRungs_29
      · have hF := iff_ hF c_11
        refine lv_iload_n hx hb dX8_allRungs_14 rfl (lv_at hl 1 rfl) ?_
        refine lv_aload_n hx hb dX8_allRungs_15 rfl (lv_at hl 0 rfl) ?_
        refine lv_iload_n hx hb dX8_allRungs_16 rfl (lv_at hl 2 rfl) ?_
        obtain ⟨r_17, hq_17, hF⟩ := bn_i hF
        refine cr_V (As := [.int x2]) (rest := [.int x1]) ⟨hx, hb, hml, hown, hts⟩ (c_X8_rungs l D y fl a_t a_t_now a_t_tried a_t_kept a_t_saved a_t_line a_t_text a_t_told a_t_way t_undos t_isSaved t_lined t_length t_at t_order t_fault t_reason t_detail t_index t_answer t_thrown t_went t_fell t_now x2 r_17 hq_17) (cwV 1 hts gX8_allRungs_X8_rungs rfl rfl rfl (by decide +kernel) ⟨Nat.le_of_ble_eq_true rfl, Nat.le_of_ble_eq_true rfl⟩) hK hP [0, 1] rfl rfl rfl rfl hl.1 rfl (Nat.le_of_ble_eq_true rfl) dX8_allRungs_17 ⟨Nat.le_of_ble_eq_true rfl, Nat.le_of_ble_eq_true rfl⟩ ?_
        refine lv_iadd hx hb dX8_allRungs_20 ?_
        refine lv_istore_n (lv' := [(1, .int (x1 + r_17)), (0, .ref a_t), (2, .int x2)]) hx hb dX8_allRungs_21 rfl hl (by decide) rfl (fun ls hl => ?_)
        refine lv_iinc (v := x2 + (1 : Int32)) (lv' := [(2, .int (x2 + (1 : Int32))), (1, .int (x1 + r_17)), (0, .ref a_t)]) hx hb dX8_allRungs_22 hl (k := 2) rfl rfl (by decide) rfl (fun ls hl => ?_)
        refine lv_goto (tgt := 4) hx hb dX8_allRungs_25 (by decide) ?_
        exact ih (x1 + r_17) (x2 + (1 : Int32)) hF ls (lv_sub hl [2, 1, 0] rfl)
  refine W_entry hav (Nat.le_of_ble_eq_true rfl) (fun ls hl => ?_)
  have hl : lv_has ls 3 [(0, .ref a_t)] := hl
  refine lv_iconst (v := 0) hx hb dX8_allRungs_0 (by decide) ?_
  refine lv_istore_n (lv' := [(1, .int (0 : Int32)), (0, .ref a_t)]) hx hb dX8_allRungs_1 rfl hl (by decide) rfl (fun ls hl => ?_)
  refine lv_iconst (v := 0) hx hb dX8_allRungs_2 (by decide) ?_
  refine lv_istore_n (lv' := [(2, .int (0 : Int32)), (1, .int (0 : Int32)), (0, .ref a_t)]) hx hb dX8_allRungs_3 rfl hl (by decide) rfl (fun ls hl => ?_)
  exact k_4 fl (0 : Int32) (0 : Int32) hF ls (lv_sub hl [2, 1, 0] rfl)
def F_X8_meanSteps_9 (fl : Nat) (t_now : Nat → Int32) : Nat → Int32 → Int32 → Int32 → (Nat → Int32) → Int32 → Int32 → Option (UInt64 × Int32 × Int32 × Int32 × (Nat → Int32))
  | 0, _, _, _, _, _, _ => none
  | n + 1, t_thrown_w, t_went_w, t_fell_w, t_way_w, x1, x2 => gi (0 : Int32) 77 (if (t_now (0 : Int32).toNatClampNeg) ≤ x2 then (gi (0 : Int32) 77 (if (t_now (0 : Int32).toNatClampNeg) = 0 then (bn2 (F_X8_raises fl t_thrown_w (1 : Int32)) fun r_48 t_thrown_48 => some (FP.i2d r_48, t_thrown_48, t_went_w, t_fell_w, t_way_w)) else (gi (0 : Int32) 77 (gd (okD (FP.ddiv (FP.i2d x1) (FP.i2d (t_now (0 : Int32).toNatClampNeg))) = true) (some (FP.ddiv (FP.i2d x1) (FP.i2d (t_now (0 : Int32).toNatClampNeg)), t_thrown_w, t_went_w, t_fell_w, t_way_w)))))) else (bn (F_X8_key fl t_now x2) fun r_23 => bn4 (F_X8_searches fl t_went_w t_fell_w t_now t_way_w r_23) fun r_26 t_went_26 t_fell_26 t_way_26 => F_X8_meanSteps_9 fl t_now n t_thrown_w t_went_26 t_fell_26 t_way_26 (x1 + r_26) (x2 + (1 : Int32))))
def F_X8_meanSteps (fl : Nat) (t_thrown : Int32) (t_went : Int32) (t_fell : Int32) (t_now : Nat → Int32) (t_way : Nat → Int32) : Option (UInt64 × Int32 × Int32 × Int32 × (Nat → Int32)) := F_X8_meanSteps_9 fl t_now fl (0 : Int32) t_went t_fell t_way (0 : Int32) (0 : Int32)
theorem iX8_meanSteps_X8 : ∀ w ∈ u_ws RX8 TX8 22, w ∈ wsX8_meanSteps := fun w h => List.mem_cons_of_mem _ (List.mem_append_left _ (List.mem_append_right _ h))
set_option maxHeartbeats 4000000 in
set_option maxRecDepth 100000 in
theorem c_X8_meanSteps (l : Launch) (D : va_G) (y : Nat → ClassId) (fl : Nat) (sz : Nat) (a_t : Nat) (a_t_now : Nat) (a_t_tried : Nat) (a_t_kept : Nat) (a_t_saved : Nat) (a_t_line : Nat) (a_t_text : Nat) (a_t_told : Nat) (a_t_way : Nat) (t_undos : Int32) (t_isSaved : Int32) (t_lined : Int32) (t_length : Int32) (t_at : Int32) (t_order : Int32) (t_fault : Int32) (t_reason : Int32) (t_detail : Int32) (t_index : Int32) (t_answer : Int32) (t_thrown : Int32) (t_went : Int32) (t_fell : Int32) (t_now : Nat → Int32) (t_way : Nat → Int32) (r : UInt64) (t_thrown' : Int32) (t_went' : Int32) (t_fell' : Int32) (t_way' : Nat → Int32) (hF : F_X8_meanSteps fl t_thrown t_went t_fell t_now t_way = some (r, t_thrown', t_went', t_fell', t_way')) : Met l yX8_meanSteps wsX8_meanSteps (rmq 4 89) (wrP D y [(a_t, .inr (12, [.ref a_t_now, .ref a_t_tried, .ref a_t_kept, .int t_undos, .ref a_t_saved, .int t_isSaved, .ref a_t_line, .int t_lined, .ref a_t_text, .int t_length, .int t_at, .int t_order, .ref a_t_told, .int t_fault, .int t_reason, .int t_detail, .int t_index, .int t_answer, .int t_thrown, .ref a_t_way, .int t_went, .int t_fell])), (a_t_now, .inl (y 0, 77, .inl t_now)), (a_t_way, .inl (y 0, 24, .inl t_way))] sz [.ref a_t]) (wQd D y r [(a_t, .inr (12, [.ref a_t_now, .ref a_t_tried, .ref a_t_kept, .int t_undos, .ref a_t_saved, .int t_isSaved, .ref a_t_line, .int t_lined, .ref a_t_text, .int t_length, .int t_at, .int t_order, .ref a_t_told, .int t_fault, .int t_reason, .int t_detail, .int t_index, .int t_answer, .int t_thrown', .ref a_t_way, .int t_went', .int t_fell'])), (a_t_now, .inl (y 0, 77, .inl t_now)), (a_t_way, .inl (y 0, 24, .inl t_way'))] [(a_t, .inr (12, [.ref a_t_now, .ref a_t_tried, .ref a_t_kept, .int t_undos, .ref a_t_saved, .int t_isSaved, .ref a_t_line, .int t_lined, .ref a_t_text, .int t_length, .int t_at, .int t_order, .ref a_t_told, .int t_fault, .int t_reason, .int t_detail, .int t_index, .int t_answer, .int t_thrown, .ref a_t_way, .int t_went, .int t_fell])), (a_t_now, .inl (y 0, 77, .inl t_now)), (a_t_way, .inl (y 0, 24, .inl t_way))] sz) 0 0 (va_A [(a_t, .inr (12, [.ref a_t_now, .ref a_t_tried, .ref a_t_kept, .int t_undos, .ref a_t_saved, .int t_isSaved, .ref a_t_line, .int t_lined, .ref a_t_text, .int t_length, .int t_at, .int t_order, .ref a_t_told, .int t_fault, .int t_reason, .int t_detail, .int t_index, .int t_answer, .int t_thrown, .ref a_t_way, .int t_went, .int t_fell])), (a_t_now, .inl (y 0, 77, .inl t_now)), (a_t_way, .inl (y 0, 24, .inl t_way))] sz) := by
  refine Met.ofW (cc := cX8_meanSteps) (maxL := 3) (ret := (some .double)) (by decide) rfl ?_
  intro p e s m args below meth c s₁ B hml hv
  obtain ⟨hav, hsz, hP, hK, hD0⟩ := hv
  have hx := B.exec
  have hb := B.bytes
  have hr := B.returns
  have hts := atoms_spec (ws := wsX8_meanSteps) B.pre
  have hown : s.vm.findClass RX8 = some m.cls := findClass_of_methodNamed B.named
  have hlocks := B.notSynchronized
  subst hsz
  have hD := hD0.self (sz := s.heap.size)
  obtain ⟨A, hAe⟩ : ∃ A : Nat → Prop, va_A [(a_t, .inr (12, [.ref a_t_now, .ref a_t_tried, .ref a_t_kept, .int t_undos, .ref a_t_saved, .int t_isSaved, .ref a_t_line, .int t_lined, .ref a_t_text, .int t_length, .int t_at, .int t_order, .ref a_t_told, .int t_fault, .int t_reason, .int t_detail, .int t_index, .int t_answer, .int t_thrown, .ref a_t_way, .int t_went, .int t_fell])), (a_t_now, .inl (y 0, 77, .inl t_now)), (a_t_way, .inl (y 0, 24, .inl t_way))] s.heap.size = A := ⟨_, rfl⟩
  rw [hAe] at hD
  have hA : ∀ q, s.heap.size ≤ q → A q := fun q h => by rw [← hAe]; exact Or.inr h
  have hS : va_S A s.heap s.heap [] := va_S.rf
  refine W_q (R1 := (rmq 4 89)) rfl (fun Q0 hQ0 => ?_)
  unfold F_X8_meanSteps at hF
  have k_9 : ∀ (n : Nat) (t_thrown_w : Int32) (t_went_w : Int32) (t_fell_w : Int32) (t_way_w : Nat → Int32) (x1 : Int32) (x2 : Int32), F_X8_meanSteps_9 fl t_now n t_thrown_w t_went_w t_fell_w t_way_w x1 x2 = some (r, t_thrown', t_went', t_fell', t_way') → ∀ (H : Heap) (locs : List Loc), va_P D vwCl [(a_t, .inr (12, [.ref a_t_now, .ref a_t_tried, .ref a_t_kept, .int t_undos, .ref a_t_saved, .int t_isSaved, .ref a_t_line, .int t_lined, .ref a_t_text, .int t_length, .int t_at, .int t_order, .ref a_t_told, .int t_fault, .int t_reason, .int t_detail, .int t_index, .int t_answer, .int t_thrown_w, .ref a_t_way, .int t_went_w, .int t_fell_w])), (a_t_now, .inl (y 0, 77, .inl t_now)), (a_t_way, .inl (y 0, 24, .inl t_way_w))] H → va_D A [(a_t, .inr (12, [.ref a_t_now, .ref a_t_tried, .ref a_t_kept, .int t_undos, .ref a_t_saved, .int t_isSaved, .ref a_t_line, .int t_lined, .ref a_t_text, .int t_length, .int t_at, .int t_order, .ref a_t_told, .int t_fault, .int t_reason, .int t_detail, .int t_index, .int t_answer, .int t_thrown_w, .ref a_t_way, .int t_went_w, .int t_fell_w])), (a_t_now, .inl (y 0, 77, .inl t_now)), (a_t_way, .inl (y 0, 24, .inl t_way_w))] → va_S A s.heap H locs → ∀ (ls : Array Slot), lv_has ls 3 [(0, .ref a_t), (1, .int x1), (2, .int x2)] → W p l e (rmq 4 89) s m args below meth c H locs 0 0 Q0 (F0 m 9 ls []) := by
    intro n
    induction n with
    | zero => intro t_thrown_w t_went_w t_fell_w t_way_w x1 x2 hF; rw [F_X8_meanSteps_9] at hF; cases hF
    | succ n ih =>
      intro t_thrown_w t_went_w t_fell_w t_way_w x1 x2 hF H locs hP hD hS ls hl
      rw [F_X8_meanSteps_9] at hF
      refine lv_iload_n hx hb dX8_meanSteps_9 rfl (lv_at hl 2 rfl) ?_
      refine lv_aload_n hx hb dX8_meanSteps_10 rfl (lv_at hl 0 rfl) ?_
      refine va_get (D := D) (ci := 12) (v := .ref a_t_now) (C := RX8) (T := TX8) (N := 22) hx hb hts iX8_meanSteps_X8 hown hK hP 0 rfl rfl 0 (by decide) (hts (.fieldLink RX8 9 "SkipArchiveModel" "now" "[I") (List.mem_of_getElem? (i := 2) rfl)) (fun _ h9 => h9) rfl dX8_meanSteps_11 ?_
      refine lv_iconst (v := 0) hx hb dX8_meanSteps_14 (by decide) ?_
      obtain ⟨g_15, hF⟩ := gi_i hF
      refine va_iald hx hb hK hP 1 0 rfl rfl g_15 dX8_meanSteps_15 ?_
      refine lv_icmp_ge (tgt := 37) hx hb dX8_meanSteps_16 (by decide) (fun c_16 => ?_) (fun c_16 => ?_)
      · have hF := ift hF c_16
        refine lv_aload_n hx hb dX8_meanSteps_37 rfl (lv_at hl 0 rfl) ?_
        refine va_get (D := D) (ci := 12) (v := .ref a_t_now) (C := RX8) (T := TX8) (N := 22) hx hb hts iX8_meanSteps_X8 hown hK hP 0 rfl rfl 0 (by decide) (hts (.fieldLink RX8 9 "SkipArchiveModel" "now" "[I") (List.mem_of_getElem? (i := 2) rfl)) (fun _ h9 => h9) rfl dX8_meanSteps_38 ?_
        refine lv_iconst (v := 0) hx hb dX8_meanSteps_41 (by decide) ?_
        obtain ⟨g_42, hF⟩ := gi_i hF
        refine va_iald hx hb hK hP 1 0 rfl rfl g_42 dX8_meanSteps_42 ?_
        refine lv_if_ne (tgt := 55) hx hb dX8_meanSteps_43 (by decide) (fun c_43 => ?_) (fun c_43 => ?_)
        · have hF := iff_ hF c_43
          refine lv_iload_n hx hb dX8_meanSteps_55 rfl (lv_at hl 1 rfl) ?_
          refine lv_i2d hx hb dX8_meanSteps_56 ?_
          refine lv_aload_n hx hb dX8_meanSteps_57 rfl (lv_at hl 0 rfl) ?_
          refine va_get (D := D) (ci := 12) (v := .ref a_t_now) (C := RX8) (T := TX8) (N := 22) hx hb hts iX8_meanSteps_X8 hown hK hP 0 rfl rfl 0 (by decide) (hts (.fieldLink RX8 9 "SkipArchiveModel" "now" "[I") (List.mem_of_getElem? (i := 2) rfl)) (fun _ h9 => h9) rfl dX8_meanSteps_58 ?_
          refine lv_iconst (v := 0) hx hb dX8_meanSteps_61 (by decide) ?_
          obtain ⟨g_62, hF⟩ := gi_i hF
          refine va_iald hx hb hK hP 1 0 rfl rfl g_62 dX8_meanSteps_62 ?_
          refine lv_i2d hx hb dX8_meanSteps_63 ?_
          obtain ⟨g_64, hF⟩ := gd_i hF
          refine lv_ddiv hx hb dX8_meanSteps_64 (okD_n g_64) ?_
          obtain ⟨e0_65, e1_65, e2_65, e3_65, e4_65⟩ := inj5 hF
          rw [← e0_65, ← e1_65, ← e2_65, ← e3_65, ← e4_65] at hQ0
          rw [hQ0]
          exact ret_d hx hb hr hlocks hAe hK hP hD hS [0, 1, 2] rfl rfl dX8_meanSteps_65
        · have hF := ift hF c_43
          refine lv_aload_n hx hb dX8_meanSteps_46 rfl (lv_at hl 0 rfl) ?_
          refine lv_iconst (v := 1) hx hb dX8_meanSteps_47 (by decide) ?_
          obtain ⟨r_48, t_thrown_48, hq_48, hF⟩ := bn2_i hF
          refine cm_Vi (As := [.int (1 : Int32)]) (rest := []) (wr := [(a_t_now, .inl (y 0, 77, .inl t_now)), (a_t_way, .inl (y 0, 24, .inl t_way_w))]) ⟨hx, hb, hml, hown, hts⟩ (c_X8_raises l D y fl H.size a_t a_t_now a_t_tried a_t_kept a_t_saved a_t_line a_t_text a_t_told a_t_way t_undos t_isSaved t_lined t_length t_at t_order t_fault t_reason t_detail t_index t_answer t_thrown_w t_went_w t_fell_w (1 : Int32) r_48 t_thrown_48 hq_48) (cwV 1 hts gX8_meanSteps_X8_raises rfl rfl rfl (by decide +kernel) ⟨Nat.le_of_ble_eq_true rfl, Nat.le_of_ble_eq_true rfl⟩) hK hP hD hS hA [0] [1, 2] rfl rfl rfl rfl (by decide) rfl rfl rfl hl.1 rfl (Nat.le_of_ble_eq_true rfl) dX8_meanSteps_48 ⟨Nat.le_of_ble_eq_true rfl, Nat.le_of_ble_eq_true rfl⟩ (fun H locs hP hD hS => ?_)
          have hP : va_P D vwCl [(a_t_now, .inl (y 0, 77, .inl t_now)), (a_t_way, .inl (y 0, 24, .inl t_way_w)), (a_t, .inr (12, [.ref a_t_now, .ref a_t_tried, .ref a_t_kept, .int t_undos, .ref a_t_saved, .int t_isSaved, .ref a_t_line, .int t_lined, .ref a_t_text, .int t_length, .int t_at, .int t_order, .ref a_t_told, .int t_fault, .int t_reason, .int t_detail, .int t_index, .int t_answer, .int t_thrown_48, .ref a_t_way, .int t_went_w, .int t_fell_w]))] H := hP
          have hD : va_D A [(a_t_now, .inl (y 0, 77, .inl t_now)), (a_t_way, .inl (y 0, 24, .inl t_way_w)), (a_t, .inr (12, [.ref a_t_now, .ref a_t_tried, .ref a_t_kept, .int t_undos, .ref a_t_saved, .int t_isSaved, .ref a_t_line, .int t_lined, .ref a_t_text, .int t_length, .int t_at, .int t_order, .ref a_t_told, .int t_fault, .int t_reason, .int t_detail, .int t_index, .int t_answer, .int t_thrown_48, .ref a_t_way, .int t_went_w, .int t_fell_w]))] := hD
          refine lv_i2d hx hb dX8_meanSteps_51 ?_
          refine lv_goto (tgt := 65) hx hb dX8_meanSteps_52 (by decide) ?_
          obtain ⟨e0_65, e1_65, e2_65, e3_65, e4_65⟩ := inj5 hF
          rw [← e0_65, ← e1_65, ← e2_65, ← e3_65, ← e4_65] at hQ0
          rw [hQ0]
          exact ret_d hx hb hr hlocks hAe hK hP hD hS [2, 0, 1] rfl rfl dX8_meanSteps_65
      · have hF := iff_ hF c_16
        refine lv_iload_n hx hb dX8_meanSteps_19 rfl (lv_at hl 1 rfl) ?_
        refine lv_aload_n hx hb dX8_meanSteps_20 rfl (lv_at hl 0 rfl) ?_
        refine lv_aload_n hx hb dX8_meanSteps_21 rfl (lv_at hl 0 rfl) ?_
        refine lv_iload_n hx hb dX8_meanSteps_22 rfl (lv_at hl 2 rfl) ?_
        obtain ⟨r_23, hq_23, hF⟩ := bn_i hF
        refine cr_V (As := [.int x2]) (rest := [.ref a_t, .int x1]) ⟨hx, hb, hml, hown, hts⟩ (c_X8_key l D y fl a_t a_t_now a_t_tried a_t_kept a_t_saved a_t_line a_t_text a_t_told a_t_way t_undos t_isSaved t_lined t_length t_at t_order t_fault t_reason t_detail t_index t_answer t_thrown_w t_went_w t_fell_w t_now x2 r_23 hq_23) (cwV 1 hts gX8_meanSteps_X8_key rfl rfl rfl (by decide +kernel) ⟨Nat.le_of_ble_eq_true rfl, Nat.le_of_ble_eq_true rfl⟩) hK hP [0, 1] rfl rfl rfl rfl hl.1 rfl (Nat.le_of_ble_eq_true rfl) dX8_meanSteps_23 ⟨Nat.le_of_ble_eq_true rfl, Nat.le_of_ble_eq_true rfl⟩ ?_
        obtain ⟨r_26, t_went_26, t_fell_26, t_way_26, hq_26, hF⟩ := bn4_i hF
        refine cm_Vi (As := [.int r_23]) (rest := [.int x1]) (wr := []) ⟨hx, hb, hml, hown, hts⟩ (c_X8_searches l D y fl H.size a_t a_t_now a_t_tried a_t_kept a_t_saved a_t_line a_t_text a_t_told a_t_way t_undos t_isSaved t_lined t_length t_at t_order t_fault t_reason t_detail t_index t_answer t_thrown_w t_went_w t_fell_w t_now t_way_w r_23 r_26 t_went_26 t_fell_26 t_way_26 hq_26) (cwV 1 hts gX8_meanSteps_X8_searches rfl rfl rfl (by decide +kernel) ⟨Nat.le_of_ble_eq_true rfl, Nat.le_of_ble_eq_true rfl⟩) hK hP hD hS hA [0, 1, 2] [] rfl rfl rfl rfl (by decide) rfl rfl rfl hl.1 rfl (Nat.le_of_ble_eq_true rfl) dX8_meanSteps_26 ⟨Nat.le_of_ble_eq_true rfl, Nat.le_of_ble_eq_true rfl⟩ (fun H locs hP hD hS => ?_)
        have hP : va_P D vwCl [(a_t, .inr (12, [.ref a_t_now, .ref a_t_tried, .ref a_t_kept, .int t_undos, .ref a_t_saved, .int t_isSaved, .ref a_t_line, .int t_lined, .ref a_t_text, .int t_length, .int t_at, .int t_order, .ref a_t_told, .int t_fault, .int t_reason, .int t_detail, .int t_index, .int t_answer, .int t_thrown_w, .ref a_t_way, .int t_went_26, .int t_fell_26])), (a_t_now, .inl (y 0, 77, .inl t_now)), (a_t_way, .inl (y 0, 24, .inl t_way_26))] H := hP
        have hD : va_D A [(a_t, .inr (12, [.ref a_t_now, .ref a_t_tried, .ref a_t_kept, .int t_undos, .ref a_t_saved, .int t_isSaved, .ref a_t_line, .int t_lined, .ref a_t_text, .int t_length, .int t_at, .int t_order, .ref a_t_told, .int t_fault, .int t_reason, .int t_detail, .int t_index, .int t_answer, .int t_thrown_w, .ref a_t_way, .int t_went_26, .int t_fell_26])), (a_t_now, .inl (y 0, 77, .inl t_now)), (a_t_way, .inl (y 0, 24, .inl t_way_26))] := hD
        refine lv_iadd hx hb dX8_meanSteps_29 ?_
        refine lv_istore_n (lv' := [(1, .int (x1 + r_26)), (0, .ref a_t), (2, .int x2)]) hx hb dX8_meanSteps_30 rfl hl (by decide) rfl (fun ls hl => ?_)
        refine lv_iinc (v := x2 + (1 : Int32)) (lv' := [(2, .int (x2 + (1 : Int32))), (1, .int (x1 + r_26)), (0, .ref a_t)]) hx hb dX8_meanSteps_31 hl (k := 2) rfl rfl (by decide) rfl (fun ls hl => ?_)
        refine lv_goto (tgt := 9) hx hb dX8_meanSteps_34 (by decide) ?_
        exact ih t_thrown_w t_went_26 t_fell_26 t_way_26 (x1 + r_26) (x2 + (1 : Int32)) hF _ _ hP hD hS ls (lv_sub hl [2, 1, 0] rfl)
  refine W_entry hav (Nat.le_of_ble_eq_true rfl) (fun ls hl => ?_)
  have hl : lv_has ls 3 [(0, .ref a_t)] := hl
  refine lv_aload_n hx hb dX8_meanSteps_0 rfl (lv_at hl 0 rfl) ?_
  refine lv_iconst (v := 0) hx hb dX8_meanSteps_1 (by decide) ?_
  refine va_put (D := D) (ci := 12) (v := .int (0 : Int32)) (ty := .int) (C := RX8) (T := TX8) (N := 22) hx hb hts iX8_meanSteps_X8 tyX8 tyX8_ok nmX8 hown hK hP hD hS 0 rfl rfl 18 (by decide) (hts (.fieldLink RX8 39 "SkipArchiveModel" "thrown" "I") (List.mem_of_getElem? (i := 1) rfl)) (fun _ h9 => h9) rfl (by decide +kernel) rfl rfl (Nat.le_of_ble_eq_true rfl) dX8_meanSteps_2 (fun H locs hP hD hS => ?_)
  have hP : va_P D vwCl [(a_t, .inr (12, [.ref a_t_now, .ref a_t_tried, .ref a_t_kept, .int t_undos, .ref a_t_saved, .int t_isSaved, .ref a_t_line, .int t_lined, .ref a_t_text, .int t_length, .int t_at, .int t_order, .ref a_t_told, .int t_fault, .int t_reason, .int t_detail, .int t_index, .int t_answer, .int (0 : Int32), .ref a_t_way, .int t_went, .int t_fell])), (a_t_now, .inl (y 0, 77, .inl t_now)), (a_t_way, .inl (y 0, 24, .inl t_way))] H := hP
  have hD : va_D A [(a_t, .inr (12, [.ref a_t_now, .ref a_t_tried, .ref a_t_kept, .int t_undos, .ref a_t_saved, .int t_isSaved, .ref a_t_line, .int t_lined, .ref a_t_text, .int t_length, .int t_at, .int t_order, .ref a_t_told, .int t_fault, .int t_reason, .int t_detail, .int t_index, .int t_answer, .int (0 : Int32), .ref a_t_way, .int t_went, .int t_fell])), (a_t_now, .inl (y 0, 77, .inl t_now)), (a_t_way, .inl (y 0, 24, .inl t_way))] := hD
  refine lv_iconst (v := 0) hx hb dX8_meanSteps_5 (by decide) ?_
  refine lv_istore_n (lv' := [(1, .int (0 : Int32)), (0, .ref a_t)]) hx hb dX8_meanSteps_6 rfl hl (by decide) rfl (fun ls hl => ?_)
  refine lv_iconst (v := 0) hx hb dX8_meanSteps_7 (by decide) ?_
  refine lv_istore_n (lv' := [(2, .int (0 : Int32)), (1, .int (0 : Int32)), (0, .ref a_t)]) hx hb dX8_meanSteps_8 rfl hl (by decide) rfl (fun ls hl => ?_)
  exact k_9 fl (0 : Int32) t_went t_fell t_way (0 : Int32) (0 : Int32) hF _ _ hP hD hS ls (lv_sub hl [2, 1, 0] rfl)
def F_X8_meanRungs (fl : Nat) (t_thrown : Int32) (t_now : Nat → Int32) : Option (UInt32 × Int32) := gi (0 : Int32) 77 (if (t_now (0 : Int32).toNatClampNeg) = 0 then (bn2 (F_X8_raises fl (0 : Int32) (1 : Int32)) fun r_16 t_thrown_16 => some (FP.i2f r_16, t_thrown_16)) else (bn (F_X8_allRungs fl t_now) fun r_24 => gi (0 : Int32) 77 (gd (okF (FP.fdiv (FP.i2f r_24) (FP.i2f (t_now (0 : Int32).toNatClampNeg))) = true) (some (FP.fdiv (FP.i2f r_24) (FP.i2f (t_now (0 : Int32).toNatClampNeg)), (0 : Int32))))))
theorem iX8_meanRungs_X8 : ∀ w ∈ u_ws RX8 TX8 22, w ∈ wsX8_meanRungs := fun w h => List.mem_cons_of_mem _ (List.mem_append_left _ (List.mem_append_right _ h))
set_option maxHeartbeats 4000000 in
set_option maxRecDepth 100000 in
theorem c_X8_meanRungs (l : Launch) (D : va_G) (y : Nat → ClassId) (fl : Nat) (sz : Nat) (a_t : Nat) (a_t_now : Nat) (a_t_tried : Nat) (a_t_kept : Nat) (a_t_saved : Nat) (a_t_line : Nat) (a_t_text : Nat) (a_t_told : Nat) (a_t_way : Nat) (t_undos : Int32) (t_isSaved : Int32) (t_lined : Int32) (t_length : Int32) (t_at : Int32) (t_order : Int32) (t_fault : Int32) (t_reason : Int32) (t_detail : Int32) (t_index : Int32) (t_answer : Int32) (t_thrown : Int32) (t_went : Int32) (t_fell : Int32) (t_now : Nat → Int32) (r : UInt32) (t_thrown' : Int32) (hF : F_X8_meanRungs fl t_thrown t_now = some (r, t_thrown')) : Met l yX8_meanRungs wsX8_meanRungs (rmq 2 43) (wrP D y [(a_t, .inr (12, [.ref a_t_now, .ref a_t_tried, .ref a_t_kept, .int t_undos, .ref a_t_saved, .int t_isSaved, .ref a_t_line, .int t_lined, .ref a_t_text, .int t_length, .int t_at, .int t_order, .ref a_t_told, .int t_fault, .int t_reason, .int t_detail, .int t_index, .int t_answer, .int t_thrown, .ref a_t_way, .int t_went, .int t_fell])), (a_t_now, .inl (y 0, 77, .inl t_now))] sz [.ref a_t]) (wQf D y r [(a_t, .inr (12, [.ref a_t_now, .ref a_t_tried, .ref a_t_kept, .int t_undos, .ref a_t_saved, .int t_isSaved, .ref a_t_line, .int t_lined, .ref a_t_text, .int t_length, .int t_at, .int t_order, .ref a_t_told, .int t_fault, .int t_reason, .int t_detail, .int t_index, .int t_answer, .int t_thrown', .ref a_t_way, .int t_went, .int t_fell])), (a_t_now, .inl (y 0, 77, .inl t_now))] [(a_t, .inr (12, [.ref a_t_now, .ref a_t_tried, .ref a_t_kept, .int t_undos, .ref a_t_saved, .int t_isSaved, .ref a_t_line, .int t_lined, .ref a_t_text, .int t_length, .int t_at, .int t_order, .ref a_t_told, .int t_fault, .int t_reason, .int t_detail, .int t_index, .int t_answer, .int t_thrown, .ref a_t_way, .int t_went, .int t_fell])), (a_t_now, .inl (y 0, 77, .inl t_now))] sz) 0 0 (va_A [(a_t, .inr (12, [.ref a_t_now, .ref a_t_tried, .ref a_t_kept, .int t_undos, .ref a_t_saved, .int t_isSaved, .ref a_t_line, .int t_lined, .ref a_t_text, .int t_length, .int t_at, .int t_order, .ref a_t_told, .int t_fault, .int t_reason, .int t_detail, .int t_index, .int t_answer, .int t_thrown, .ref a_t_way, .int t_went, .int t_fell])), (a_t_now, .inl (y 0, 77, .inl t_now))] sz) := by
  refine Met.ofW (cc := cX8_meanRungs) (maxL := 1) (ret := (some .float)) (by decide) rfl ?_
  intro p e s m args below meth c s₁ B hml hv
  obtain ⟨hav, hsz, hP, hK, hD0⟩ := hv
  have hx := B.exec
  have hb := B.bytes
  have hr := B.returns
  have hts := atoms_spec (ws := wsX8_meanRungs) B.pre
  have hown : s.vm.findClass RX8 = some m.cls := findClass_of_methodNamed B.named
  have hlocks := B.notSynchronized
  subst hsz
  have hD := hD0.self (sz := s.heap.size)
  obtain ⟨A, hAe⟩ : ∃ A : Nat → Prop, va_A [(a_t, .inr (12, [.ref a_t_now, .ref a_t_tried, .ref a_t_kept, .int t_undos, .ref a_t_saved, .int t_isSaved, .ref a_t_line, .int t_lined, .ref a_t_text, .int t_length, .int t_at, .int t_order, .ref a_t_told, .int t_fault, .int t_reason, .int t_detail, .int t_index, .int t_answer, .int t_thrown, .ref a_t_way, .int t_went, .int t_fell])), (a_t_now, .inl (y 0, 77, .inl t_now))] s.heap.size = A := ⟨_, rfl⟩
  rw [hAe] at hD
  have hA : ∀ q, s.heap.size ≤ q → A q := fun q h => by rw [← hAe]; exact Or.inr h
  have hS : va_S A s.heap s.heap [] := va_S.rf
  refine W_q (R1 := (rmq 2 43)) rfl (fun Q0 hQ0 => ?_)
  unfold F_X8_meanRungs at hF
  refine W_entry hav (Nat.le_of_ble_eq_true rfl) (fun ls hl => ?_)
  have hl : lv_has ls 1 [(0, .ref a_t)] := hl
  refine lv_aload_n hx hb dX8_meanRungs_0 rfl (lv_at hl 0 rfl) ?_
  refine lv_iconst (v := 0) hx hb dX8_meanRungs_1 (by decide) ?_
  refine va_put (D := D) (ci := 12) (v := .int (0 : Int32)) (ty := .int) (C := RX8) (T := TX8) (N := 22) hx hb hts iX8_meanRungs_X8 tyX8 tyX8_ok nmX8 hown hK hP hD hS 0 rfl rfl 18 (by decide) (hts (.fieldLink RX8 39 "SkipArchiveModel" "thrown" "I") (List.mem_of_getElem? (i := 1) rfl)) (fun _ h9 => h9) rfl (by decide +kernel) rfl rfl (Nat.le_of_ble_eq_true rfl) dX8_meanRungs_2 (fun H locs hP hD hS => ?_)
  have hP : va_P D vwCl [(a_t, .inr (12, [.ref a_t_now, .ref a_t_tried, .ref a_t_kept, .int t_undos, .ref a_t_saved, .int t_isSaved, .ref a_t_line, .int t_lined, .ref a_t_text, .int t_length, .int t_at, .int t_order, .ref a_t_told, .int t_fault, .int t_reason, .int t_detail, .int t_index, .int t_answer, .int (0 : Int32), .ref a_t_way, .int t_went, .int t_fell])), (a_t_now, .inl (y 0, 77, .inl t_now))] H := hP
  have hD : va_D A [(a_t, .inr (12, [.ref a_t_now, .ref a_t_tried, .ref a_t_kept, .int t_undos, .ref a_t_saved, .int t_isSaved, .ref a_t_line, .int t_lined, .ref a_t_text, .int t_length, .int t_at, .int t_order, .ref a_t_told, .int t_fault, .int t_reason, .int t_detail, .int t_index, .int t_answer, .int (0 : Int32), .ref a_t_way, .int t_went, .int t_fell])), (a_t_now, .inl (y 0, 77, .inl t_now))] := hD
  refine lv_aload_n hx hb dX8_meanRungs_5 rfl (lv_at hl 0 rfl) ?_
  refine va_get (D := D) (ci := 12) (v := .ref a_t_now) (C := RX8) (T := TX8) (N := 22) hx hb hts iX8_meanRungs_X8 hown hK hP 0 rfl rfl 0 (by decide) (hts (.fieldLink RX8 9 "SkipArchiveModel" "now" "[I") (List.mem_of_getElem? (i := 2) rfl)) (fun _ h9 => h9) rfl dX8_meanRungs_6 ?_
  refine lv_iconst (v := 0) hx hb dX8_meanRungs_9 (by decide) ?_
  obtain ⟨g_10, hF⟩ := gi_i hF
  refine va_iald hx hb hK hP 1 0 rfl rfl g_10 dX8_meanRungs_10 ?_
  refine lv_if_ne (tgt := 23) hx hb dX8_meanRungs_11 (by decide) (fun c_11 => ?_) (fun c_11 => ?_)
  · have hF := iff_ hF c_11
    refine lv_aload_n hx hb dX8_meanRungs_23 rfl (lv_at hl 0 rfl) ?_
    obtain ⟨r_24, hq_24, hF⟩ := bn_i hF
    refine cr_V (As := []) (rest := []) ⟨hx, hb, hml, hown, hts⟩ (c_X8_allRungs l D y fl a_t a_t_now a_t_tried a_t_kept a_t_saved a_t_line a_t_text a_t_told a_t_way t_undos t_isSaved t_lined t_length t_at t_order t_fault t_reason t_detail t_index t_answer (0 : Int32) t_went t_fell t_now r_24 hq_24) (cwV 0 hts gX8_meanRungs_X8_allRungs rfl rfl rfl (by decide +kernel) ⟨Nat.le_of_ble_eq_true rfl, Nat.le_of_ble_eq_true rfl⟩) hK hP [0, 1] rfl rfl rfl rfl hl.1 rfl (Nat.le_of_ble_eq_true rfl) dX8_meanRungs_24 ⟨Nat.le_of_ble_eq_true rfl, Nat.le_of_ble_eq_true rfl⟩ ?_
    refine lv_i2f hx hb dX8_meanRungs_27 ?_
    refine lv_aload_n hx hb dX8_meanRungs_28 rfl (lv_at hl 0 rfl) ?_
    refine va_get (D := D) (ci := 12) (v := .ref a_t_now) (C := RX8) (T := TX8) (N := 22) hx hb hts iX8_meanRungs_X8 hown hK hP 0 rfl rfl 0 (by decide) (hts (.fieldLink RX8 9 "SkipArchiveModel" "now" "[I") (List.mem_of_getElem? (i := 2) rfl)) (fun _ h9 => h9) rfl dX8_meanRungs_29 ?_
    refine lv_iconst (v := 0) hx hb dX8_meanRungs_32 (by decide) ?_
    obtain ⟨g_33, hF⟩ := gi_i hF
    refine va_iald hx hb hK hP 1 0 rfl rfl g_33 dX8_meanRungs_33 ?_
    refine lv_i2f hx hb dX8_meanRungs_34 ?_
    obtain ⟨g_35, hF⟩ := gd_i hF
    refine lv_fdiv hx hb dX8_meanRungs_35 (okF_n g_35) ?_
    obtain ⟨e0_36, e1_36⟩ := inj2 hF
    rw [← e0_36, ← e1_36] at hQ0
    rw [hQ0]
    exact ret_f hx hb hr hlocks hAe hK hP hD hS [0, 1] rfl rfl dX8_meanRungs_36
  · have hF := ift hF c_11
    refine lv_aload_n hx hb dX8_meanRungs_14 rfl (lv_at hl 0 rfl) ?_
    refine lv_iconst (v := 1) hx hb dX8_meanRungs_15 (by decide) ?_
    obtain ⟨r_16, t_thrown_16, hq_16, hF⟩ := bn2_i hF
    refine cm_Vi (As := [.int (1 : Int32)]) (rest := []) (wr := [(a_t_now, .inl (y 0, 77, .inl t_now))]) ⟨hx, hb, hml, hown, hts⟩ (c_X8_raises l D y fl H.size a_t a_t_now a_t_tried a_t_kept a_t_saved a_t_line a_t_text a_t_told a_t_way t_undos t_isSaved t_lined t_length t_at t_order t_fault t_reason t_detail t_index t_answer (0 : Int32) t_went t_fell (1 : Int32) r_16 t_thrown_16 hq_16) (cwV 1 hts gX8_meanRungs_X8_raises rfl rfl rfl (by decide +kernel) ⟨Nat.le_of_ble_eq_true rfl, Nat.le_of_ble_eq_true rfl⟩) hK hP hD hS hA [0] [1] rfl rfl rfl rfl (by decide) rfl rfl rfl hl.1 rfl (Nat.le_of_ble_eq_true rfl) dX8_meanRungs_16 ⟨Nat.le_of_ble_eq_true rfl, Nat.le_of_ble_eq_true rfl⟩ (fun H locs hP hD hS => ?_)
    have hP : va_P D vwCl [(a_t_now, .inl (y 0, 77, .inl t_now)), (a_t, .inr (12, [.ref a_t_now, .ref a_t_tried, .ref a_t_kept, .int t_undos, .ref a_t_saved, .int t_isSaved, .ref a_t_line, .int t_lined, .ref a_t_text, .int t_length, .int t_at, .int t_order, .ref a_t_told, .int t_fault, .int t_reason, .int t_detail, .int t_index, .int t_answer, .int t_thrown_16, .ref a_t_way, .int t_went, .int t_fell]))] H := hP
    have hD : va_D A [(a_t_now, .inl (y 0, 77, .inl t_now)), (a_t, .inr (12, [.ref a_t_now, .ref a_t_tried, .ref a_t_kept, .int t_undos, .ref a_t_saved, .int t_isSaved, .ref a_t_line, .int t_lined, .ref a_t_text, .int t_length, .int t_at, .int t_order, .ref a_t_told, .int t_fault, .int t_reason, .int t_detail, .int t_index, .int t_answer, .int t_thrown_16, .ref a_t_way, .int t_went, .int t_fell]))] := hD
    refine lv_i2f hx hb dX8_meanRungs_19 ?_
    refine lv_goto (tgt := 36) hx hb dX8_meanRungs_20 (by decide) ?_
    obtain ⟨e0_36, e1_36⟩ := inj2 hF
    rw [← e0_36, ← e1_36] at hQ0
    rw [hQ0]
    exact ret_f hx hb hr hlocks hAe hK hP hD hS [1, 0] rfl rfl dX8_meanRungs_36
def F_X8_account_78 (fl : Nat) (t_undos : Int32) (t_length : Int32) (t_now : Nat → Int32) : Nat → Int32 → Int32 → Int32 → Int32 → Option (Int32 × Int32)
  | 0, _, _, _, _ => none
  | n + 1, t_thrown_w, x1, x2, x3 => gi (0 : Int32) 77 (if (t_now (0 : Int32).toNatClampNeg) ≤ x3 then (some (x2, t_thrown_w)) else (bn (F_X8_weight fl t_now x3) fun r_91 => F_X8_account_78 fl t_undos t_length t_now n t_thrown_w x1 (x2 + r_91) (x3 + (1 : Int32))))
def F_X8_account_137 (fl : Nat) (t_undos : Int32) (t_length : Int32) (t_now : Nat → Int32) : Nat → Int32 → Int32 → Int32 → Int32 → Option (Int32 × Int32)
  | 0, _, _, _, _ => none
  | n + 1, t_thrown_w, x1, x2, x3 => gi (0 : Int32) 77 (if (t_now (0 : Int32).toNatClampNeg) ≤ x3 then (some (x2 - (1 : Int32), t_thrown_w)) else (bn (F_X8_rungs fl t_now x3) fun r_150 => F_X8_account_137 fl t_undos t_length t_now n t_thrown_w x1 (if x2 < r_150 then r_150 else x2) (x3 + (1 : Int32))))
def F_X8_account (fl : Nat) (t_undos : Int32) (t_length : Int32) (t_thrown : Int32) (t_now : Nat → Int32) (p1 : Int32) : Option (Int32 × Int32) := if p1 = (0 : Int32) then (gi (0 : Int32) 77 (some (t_now (0 : Int32).toNatClampNeg, (0 : Int32)))) else (if p1 = (1 : Int32) then (bn (F_X8_allRungs fl t_now) fun r_72 => some (r_72, (0 : Int32))) else (if p1 = (2 : Int32) then (F_X8_account_78 fl t_undos t_length t_now fl (0 : Int32) p1 (0 : Int32) (0 : Int32)) else (if p1 = (3 : Int32) then (gi (1 : Int32) 77 (some (t_now (1 : Int32).toNatClampNeg, (0 : Int32)))) else (if p1 = (4 : Int32) then (gi (2 : Int32) 77 (some (t_now (2 : Int32).toNatClampNeg, (0 : Int32)))) else (if p1 = (5 : Int32) then (gi (3 : Int32) 77 (some (t_now (3 : Int32).toNatClampNeg, (0 : Int32)))) else (if p1 = (6 : Int32) then (gi (4 : Int32) 77 (bn (F_J6_bitCount_0f7a4 fl (t_now (4 : Int32).toNatClampNeg)) fun r_131 => some (r_131, (0 : Int32)))) else (if p1 = (7 : Int32) then (F_X8_account_137 fl t_undos t_length t_now fl (0 : Int32) p1 (0 : Int32) (0 : Int32)) else (if p1 = (8 : Int32) then (some (t_undos, (0 : Int32))) else (if p1 = (9 : Int32) then (some (t_length, (0 : Int32))) else (bn2 (F_X8_raises fl (0 : Int32) (1 : Int32)) fun r_179 t_thrown_179 => some (r_179, t_thrown_179)))))))))))
theorem iX8_account_X8 : ∀ w ∈ u_ws RX8 TX8 22, w ∈ wsX8_account := fun w h => List.mem_cons_of_mem _ (List.mem_append_left _ (List.mem_append_right _ h))
set_option maxHeartbeats 4000000 in
set_option maxRecDepth 100000 in
theorem c_X8_account (l : Launch) (D : va_G) (y : Nat → ClassId) (fl : Nat) (sz : Nat) (a_t : Nat) (a_t_now : Nat) (a_t_tried : Nat) (a_t_kept : Nat) (a_t_saved : Nat) (a_t_line : Nat) (a_t_text : Nat) (a_t_told : Nat) (a_t_way : Nat) (t_undos : Int32) (t_isSaved : Int32) (t_lined : Int32) (t_length : Int32) (t_at : Int32) (t_order : Int32) (t_fault : Int32) (t_reason : Int32) (t_detail : Int32) (t_index : Int32) (t_answer : Int32) (t_thrown : Int32) (t_went : Int32) (t_fell : Int32) (t_now : Nat → Int32) (p1 : Int32) (r : Int32) (t_thrown' : Int32) (hF : F_X8_account fl t_undos t_length t_thrown t_now p1 = some (r, t_thrown')) : Met l yX8_account wsX8_account (rmq 2 43) (wrP D y [(a_t, .inr (12, [.ref a_t_now, .ref a_t_tried, .ref a_t_kept, .int t_undos, .ref a_t_saved, .int t_isSaved, .ref a_t_line, .int t_lined, .ref a_t_text, .int t_length, .int t_at, .int t_order, .ref a_t_told, .int t_fault, .int t_reason, .int t_detail, .int t_index, .int t_answer, .int t_thrown, .ref a_t_way, .int t_went, .int t_fell])), (a_t_now, .inl (y 0, 77, .inl t_now))] sz [.ref a_t, .int p1]) (wQi D y r [(a_t, .inr (12, [.ref a_t_now, .ref a_t_tried, .ref a_t_kept, .int t_undos, .ref a_t_saved, .int t_isSaved, .ref a_t_line, .int t_lined, .ref a_t_text, .int t_length, .int t_at, .int t_order, .ref a_t_told, .int t_fault, .int t_reason, .int t_detail, .int t_index, .int t_answer, .int t_thrown', .ref a_t_way, .int t_went, .int t_fell])), (a_t_now, .inl (y 0, 77, .inl t_now))] [(a_t, .inr (12, [.ref a_t_now, .ref a_t_tried, .ref a_t_kept, .int t_undos, .ref a_t_saved, .int t_isSaved, .ref a_t_line, .int t_lined, .ref a_t_text, .int t_length, .int t_at, .int t_order, .ref a_t_told, .int t_fault, .int t_reason, .int t_detail, .int t_index, .int t_answer, .int t_thrown, .ref a_t_way, .int t_went, .int t_fell])), (a_t_now, .inl (y 0, 77, .inl t_now))] sz) 0 0 (va_A [(a_t, .inr (12, [.ref a_t_now, .ref a_t_tried, .ref a_t_kept, .int t_undos, .ref a_t_saved, .int t_isSaved, .ref a_t_line, .int t_lined, .ref a_t_text, .int t_length, .int t_at, .int t_order, .ref a_t_told, .int t_fault, .int t_reason, .int t_detail, .int t_index, .int t_answer, .int t_thrown, .ref a_t_way, .int t_went, .int t_fell])), (a_t_now, .inl (y 0, 77, .inl t_now))] sz) := by
  refine Met.ofW (cc := cX8_account) (maxL := 4) (ret := (some .int)) (by decide) rfl ?_
  intro p e s m args below meth c s₁ B hml hv
  obtain ⟨hav, hsz, hP, hK, hD0⟩ := hv
  have hx := B.exec
  have hb := B.bytes
  have hr := B.returns
  have hts := atoms_spec (ws := wsX8_account) B.pre
  have hown : s.vm.findClass RX8 = some m.cls := findClass_of_methodNamed B.named
  have hlocks := B.notSynchronized
  subst hsz
  have hD := hD0.self (sz := s.heap.size)
  obtain ⟨A, hAe⟩ : ∃ A : Nat → Prop, va_A [(a_t, .inr (12, [.ref a_t_now, .ref a_t_tried, .ref a_t_kept, .int t_undos, .ref a_t_saved, .int t_isSaved, .ref a_t_line, .int t_lined, .ref a_t_text, .int t_length, .int t_at, .int t_order, .ref a_t_told, .int t_fault, .int t_reason, .int t_detail, .int t_index, .int t_answer, .int t_thrown, .ref a_t_way, .int t_went, .int t_fell])), (a_t_now, .inl (y 0, 77, .inl t_now))] s.heap.size = A := ⟨_, rfl⟩
  rw [hAe] at hD
  have hA : ∀ q, s.heap.size ≤ q → A q := fun q h => by rw [← hAe]; exact Or.inr h
  have hS : va_S A s.heap s.heap [] := va_S.rf
  refine W_q (R1 := (rmq 2 43)) rfl (fun Q0 hQ0 => ?_)
  unfold F_X8_account at hF
  have k_78 : ∀ (n : Nat) (t_thrown_w : Int32) (x1 : Int32) (x2 : Int32) (x3 : Int32), F_X8_account_78 fl t_undos t_length t_now n t_thrown_w x1 x2 x3 = some (r, t_thrown') → ∀ (H : Heap) (locs : List Loc), va_P D vwCl [(a_t, .inr (12, [.ref a_t_now, .ref a_t_tried, .ref a_t_kept, .int t_undos, .ref a_t_saved, .int t_isSaved, .ref a_t_line, .int t_lined, .ref a_t_text, .int t_length, .int t_at, .int t_order, .ref a_t_told, .int t_fault, .int t_reason, .int t_detail, .int t_index, .int t_answer, .int t_thrown_w, .ref a_t_way, .int t_went, .int t_fell])), (a_t_now, .inl (y 0, 77, .inl t_now))] H → va_D A [(a_t, .inr (12, [.ref a_t_now, .ref a_t_tried, .ref a_t_kept, .int t_undos, .ref a_t_saved, .int t_isSaved, .ref a_t_line, .int t_lined, .ref a_t_text, .int t_length, .int t_at, .int t_order, .ref a_t_told, .int t_fault, .int t_reason, .int t_detail, .int t_index, .int t_answer, .int t_thrown_w, .ref a_t_way, .int t_went, .int t_fell])), (a_t_now, .inl (y 0, 77, .inl t_now))] → va_S A s.heap H locs → ∀ (ls : Array Slot), lv_has ls 4 [(0, .ref a_t), (1, .int x1), (2, .int x2), (3, .int x3)] → W p l e (rmq 2 43) s m args below meth c H locs 0 0 Q0 (F0 m 78 ls []) := by
    intro n
    induction n with
    | zero => intro t_thrown_w x1 x2 x3 hF; rw [F_X8_account_78] at hF; cases hF
    | succ n ih =>
      intro t_thrown_w x1 x2 x3 hF H locs hP hD hS ls hl
      rw [F_X8_account_78] at hF
      refine lv_iload_n hx hb dX8_account_78 rfl (lv_at hl 3 rfl) ?_
      refine lv_aload_n hx hb dX8_account_79 rfl (lv_at hl 0 rfl) ?_
      refine va_get (D := D) (ci := 12) (v := .ref a_t_now) (C := RX8) (T := TX8) (N := 22) hx hb hts iX8_account_X8 hown hK hP 0 rfl rfl 0 (by decide) (hts (.fieldLink RX8 9 "SkipArchiveModel" "now" "[I") (List.mem_of_getElem? (i := 2) rfl)) (fun _ h9 => h9) rfl dX8_account_80 ?_
      refine lv_iconst (v := 0) hx hb dX8_account_83 (by decide) ?_
      obtain ⟨g_84, hF⟩ := gi_i hF
      refine va_iald hx hb hK hP 1 0 rfl rfl g_84 dX8_account_84 ?_
      refine lv_icmp_ge (tgt := 102) hx hb dX8_account_85 (by decide) (fun c_85 => ?_) (fun c_85 => ?_)
      · have hF := ift hF c_85
        refine lv_iload_n hx hb dX8_account_102 rfl (lv_at hl 2 rfl) ?_
        obtain ⟨e0_103, e1_103⟩ := inj2 hF
        rw [← e0_103, ← e1_103] at hQ0
        rw [hQ0]
        exact ret_i hx hb hr hlocks hAe hK hP hD hS [0, 1] rfl rfl dX8_account_103
      · have hF := iff_ hF c_85
        refine lv_iload_n hx hb dX8_account_88 rfl (lv_at hl 2 rfl) ?_
        refine lv_aload_n hx hb dX8_account_89 rfl (lv_at hl 0 rfl) ?_
        refine lv_iload_n hx hb dX8_account_90 rfl (lv_at hl 3 rfl) ?_
        obtain ⟨r_91, hq_91, hF⟩ := bn_i hF
        refine cr_V (As := [.int x3]) (rest := [.int x2]) ⟨hx, hb, hml, hown, hts⟩ (c_X8_weight l D y fl a_t a_t_now a_t_tried a_t_kept a_t_saved a_t_line a_t_text a_t_told a_t_way t_undos t_isSaved t_lined t_length t_at t_order t_fault t_reason t_detail t_index t_answer t_thrown_w t_went t_fell t_now x3 r_91 hq_91) (cwV 1 hts gX8_account_X8_weight rfl rfl rfl (by decide +kernel) ⟨Nat.le_of_ble_eq_true rfl, Nat.le_of_ble_eq_true rfl⟩) hK hP [0, 1] rfl rfl rfl rfl hl.1 rfl (Nat.le_of_ble_eq_true rfl) dX8_account_91 ⟨Nat.le_of_ble_eq_true rfl, Nat.le_of_ble_eq_true rfl⟩ ?_
        refine lv_iadd hx hb dX8_account_94 ?_
        refine lv_istore_n (lv' := [(2, .int (x2 + r_91)), (0, .ref a_t), (1, .int x1), (3, .int x3)]) hx hb dX8_account_95 rfl hl (by decide) rfl (fun ls hl => ?_)
        refine lv_iinc (v := x3 + (1 : Int32)) (lv' := [(3, .int (x3 + (1 : Int32))), (2, .int (x2 + r_91)), (0, .ref a_t), (1, .int x1)]) hx hb dX8_account_96 hl (k := 3) rfl rfl (by decide) rfl (fun ls hl => ?_)
        refine lv_goto (tgt := 78) hx hb dX8_account_99 (by decide) ?_
        exact ih t_thrown_w x1 (x2 + r_91) (x3 + (1 : Int32)) hF _ _ hP hD hS ls (lv_sub hl [2, 3, 1, 0] rfl)
  have k_137 : ∀ (n : Nat) (t_thrown_w : Int32) (x1 : Int32) (x2 : Int32) (x3 : Int32), F_X8_account_137 fl t_undos t_length t_now n t_thrown_w x1 x2 x3 = some (r, t_thrown') → ∀ (H : Heap) (locs : List Loc), va_P D vwCl [(a_t, .inr (12, [.ref a_t_now, .ref a_t_tried, .ref a_t_kept, .int t_undos, .ref a_t_saved, .int t_isSaved, .ref a_t_line, .int t_lined, .ref a_t_text, .int t_length, .int t_at, .int t_order, .ref a_t_told, .int t_fault, .int t_reason, .int t_detail, .int t_index, .int t_answer, .int t_thrown_w, .ref a_t_way, .int t_went, .int t_fell])), (a_t_now, .inl (y 0, 77, .inl t_now))] H → va_D A [(a_t, .inr (12, [.ref a_t_now, .ref a_t_tried, .ref a_t_kept, .int t_undos, .ref a_t_saved, .int t_isSaved, .ref a_t_line, .int t_lined, .ref a_t_text, .int t_length, .int t_at, .int t_order, .ref a_t_told, .int t_fault, .int t_reason, .int t_detail, .int t_index, .int t_answer, .int t_thrown_w, .ref a_t_way, .int t_went, .int t_fell])), (a_t_now, .inl (y 0, 77, .inl t_now))] → va_S A s.heap H locs → ∀ (ls : Array Slot), lv_has ls 4 [(0, .ref a_t), (1, .int x1), (2, .int x2), (3, .int x3)] → W p l e (rmq 2 43) s m args below meth c H locs 0 0 Q0 (F0 m 137 ls []) := by
    intro n
    induction n with
    | zero => intro t_thrown_w x1 x2 x3 hF; rw [F_X8_account_137] at hF; cases hF
    | succ n ih =>
      intro t_thrown_w x1 x2 x3 hF H locs hP hD hS ls hl
      rw [F_X8_account_137] at hF
      refine lv_iload_n hx hb dX8_account_137 rfl (lv_at hl 3 rfl) ?_
      refine lv_aload_n hx hb dX8_account_138 rfl (lv_at hl 0 rfl) ?_
      refine va_get (D := D) (ci := 12) (v := .ref a_t_now) (C := RX8) (T := TX8) (N := 22) hx hb hts iX8_account_X8 hown hK hP 0 rfl rfl 0 (by decide) (hts (.fieldLink RX8 9 "SkipArchiveModel" "now" "[I") (List.mem_of_getElem? (i := 2) rfl)) (fun _ h9 => h9) rfl dX8_account_139 ?_
      refine lv_iconst (v := 0) hx hb dX8_account_142 (by decide) ?_
      obtain ⟨g_143, hF⟩ := gi_i hF
      refine va_iald hx hb hK hP 1 0 rfl rfl g_143 dX8_account_143 ?_
      refine lv_icmp_ge (tgt := 163) hx hb dX8_account_144 (by decide) (fun c_144 => ?_) (fun c_144 => ?_)
      · have hF := ift hF c_144
        refine lv_iload_n hx hb dX8_account_163 rfl (lv_at hl 2 rfl) ?_
        refine lv_iconst (v := 1) hx hb dX8_account_164 (by decide) ?_
        refine lv_isub hx hb dX8_account_165 ?_
        obtain ⟨e0_166, e1_166⟩ := inj2 hF
        rw [← e0_166, ← e1_166] at hQ0
        rw [hQ0]
        exact ret_i hx hb hr hlocks hAe hK hP hD hS [0, 1] rfl rfl dX8_account_166
      · have hF := iff_ hF c_144
        refine lv_iload_n hx hb dX8_account_147 rfl (lv_at hl 2 rfl) ?_
        refine lv_aload_n hx hb dX8_account_148 rfl (lv_at hl 0 rfl) ?_
        refine lv_iload_n hx hb dX8_account_149 rfl (lv_at hl 3 rfl) ?_
        obtain ⟨r_150, hq_150, hF⟩ := bn_i hF
        refine cr_V (As := [.int x3]) (rest := [.int x2]) ⟨hx, hb, hml, hown, hts⟩ (c_X8_rungs l D y fl a_t a_t_now a_t_tried a_t_kept a_t_saved a_t_line a_t_text a_t_told a_t_way t_undos t_isSaved t_lined t_length t_at t_order t_fault t_reason t_detail t_index t_answer t_thrown_w t_went t_fell t_now x3 r_150 hq_150) (cwV 1 hts gX8_account_X8_rungs rfl rfl rfl (by decide +kernel) ⟨Nat.le_of_ble_eq_true rfl, Nat.le_of_ble_eq_true rfl⟩) hK hP [0, 1] rfl rfl rfl rfl hl.1 rfl (Nat.le_of_ble_eq_true rfl) dX8_account_150 ⟨Nat.le_of_ble_eq_true rfl, Nat.le_of_ble_eq_true rfl⟩ ?_
        refine va_mmax hx hb (hml.trans hl.1.symm) hown (hts (.methodLink RX8 208 Lib.Math.max.name) (by decide +kernel)) (hts (.static Lib.Math.max.name) (by decide +kernel)) (hts (.initialized "java/lang/Math") (by decide +kernel)) (hts (.code Lib.Math.max.name Lib.Math.max.code 2 (some .int)) (by decide +kernel)) (Nat.le_of_ble_eq_true rfl) (Nat.le_of_ble_eq_true rfl) (Nat.le_of_ble_eq_true rfl) (Nat.le_of_ble_eq_true rfl) dX8_account_153 ?_
        refine lv_istore_n (lv' := [(2, .int (if x2 < r_150 then r_150 else x2)), (0, .ref a_t), (1, .int x1), (3, .int x3)]) hx hb dX8_account_156 rfl hl (by decide) rfl (fun ls hl => ?_)
        refine lv_iinc (v := x3 + (1 : Int32)) (lv' := [(3, .int (x3 + (1 : Int32))), (2, .int (if x2 < r_150 then r_150 else x2)), (0, .ref a_t), (1, .int x1)]) hx hb dX8_account_157 hl (k := 3) rfl rfl (by decide) rfl (fun ls hl => ?_)
        refine lv_goto (tgt := 137) hx hb dX8_account_160 (by decide) ?_
        exact ih t_thrown_w x1 (if x2 < r_150 then r_150 else x2) (x3 + (1 : Int32)) hF _ _ hP hD hS ls (lv_sub hl [2, 3, 1, 0] rfl)
  refine W_entry hav (Nat.le_of_ble_eq_true rfl) (fun ls hl => ?_)
  have hl : lv_has ls 4 [(0, .ref a_t), (1, .int p1)] := hl
  refine lv_aload_n hx hb dX8_account_0 rfl (lv_at hl 0 rfl) ?_
  refine lv_iconst (v := 0) hx hb dX8_account_1 (by decide) ?_
  refine va_put (D := D) (ci := 12) (v := .int (0 : Int32)) (ty := .int) (C := RX8) (T := TX8) (N := 22) hx hb hts iX8_account_X8 tyX8 tyX8_ok nmX8 hown hK hP hD hS 0 rfl rfl 18 (by decide) (hts (.fieldLink RX8 39 "SkipArchiveModel" "thrown" "I") (List.mem_of_getElem? (i := 1) rfl)) (fun _ h9 => h9) rfl (by decide +kernel) rfl rfl (Nat.le_of_ble_eq_true rfl) dX8_account_2 (fun H locs hP hD hS => ?_)
  have hP : va_P D vwCl [(a_t, .inr (12, [.ref a_t_now, .ref a_t_tried, .ref a_t_kept, .int t_undos, .ref a_t_saved, .int t_isSaved, .ref a_t_line, .int t_lined, .ref a_t_text, .int t_length, .int t_at, .int t_order, .ref a_t_told, .int t_fault, .int t_reason, .int t_detail, .int t_index, .int t_answer, .int (0 : Int32), .ref a_t_way, .int t_went, .int t_fell])), (a_t_now, .inl (y 0, 77, .inl t_now))] H := hP
  have hD : va_D A [(a_t, .inr (12, [.ref a_t_now, .ref a_t_tried, .ref a_t_kept, .int t_undos, .ref a_t_saved, .int t_isSaved, .ref a_t_line, .int t_lined, .ref a_t_text, .int t_length, .int t_at, .int t_order, .ref a_t_told, .int t_fault, .int t_reason, .int t_detail, .int t_index, .int t_answer, .int (0 : Int32), .ref a_t_way, .int t_went, .int t_fell])), (a_t_now, .inl (y 0, 77, .inl t_now))] := hD
  refine lv_iconst (v := 0) hx hb dX8_account_5 (by decide) ?_
  refine lv_istore_n (lv' := [(2, .int (0 : Int32)), (0, .ref a_t), (1, .int p1)]) hx hb dX8_account_6 rfl hl (by decide) rfl (fun ls hl => ?_)
  refine lv_iload_n hx hb dX8_account_7 rfl (lv_at hl 2 rfl) ?_
  by_cases c0_8 : p1 = (0 : Int32)
  · have hF := ift hF c0_8
    refine lv_tableIn (tgt := 64) hx hb dX8_account_8 (by rw [c0_8]; decide) (by rw [c0_8]; decide) (by rw [c0_8]; rfl) (by decide) ?_
    refine lv_aload_n hx hb dX8_account_64 rfl (lv_at hl 1 rfl) ?_
    refine va_get (D := D) (ci := 12) (v := .ref a_t_now) (C := RX8) (T := TX8) (N := 22) hx hb hts iX8_account_X8 hown hK hP 0 rfl rfl 0 (by decide) (hts (.fieldLink RX8 9 "SkipArchiveModel" "now" "[I") (List.mem_of_getElem? (i := 2) rfl)) (fun _ h9 => h9) rfl dX8_account_65 ?_
    refine lv_iconst (v := 0) hx hb dX8_account_68 (by decide) ?_
    obtain ⟨g_69, hF⟩ := gi_i hF
    refine va_iald hx hb hK hP 1 0 rfl rfl g_69 dX8_account_69 ?_
    obtain ⟨e0_70, e1_70⟩ := inj2 hF
    rw [← e0_70, ← e1_70] at hQ0
    rw [hQ0]
    exact ret_i hx hb hr hlocks hAe hK hP hD hS [0, 1] rfl rfl dX8_account_70
  · have hF := iff_ hF c0_8
    by_cases c1_8 : p1 = (1 : Int32)
    · have hF := ift hF c1_8
      refine lv_tableIn (tgt := 71) hx hb dX8_account_8 (by rw [c1_8]; decide) (by rw [c1_8]; decide) (by rw [c1_8]; rfl) (by decide) ?_
      refine lv_aload_n hx hb dX8_account_71 rfl (lv_at hl 1 rfl) ?_
      obtain ⟨r_72, hq_72, hF⟩ := bn_i hF
      refine cr_V (As := []) (rest := []) ⟨hx, hb, hml, hown, hts⟩ (c_X8_allRungs l D y fl a_t a_t_now a_t_tried a_t_kept a_t_saved a_t_line a_t_text a_t_told a_t_way t_undos t_isSaved t_lined t_length t_at t_order t_fault t_reason t_detail t_index t_answer (0 : Int32) t_went t_fell t_now r_72 hq_72) (cwV 0 hts gX8_account_X8_allRungs rfl rfl rfl (by decide +kernel) ⟨Nat.le_of_ble_eq_true rfl, Nat.le_of_ble_eq_true rfl⟩) hK hP [0, 1] rfl rfl rfl rfl hl.1 rfl (Nat.le_of_ble_eq_true rfl) dX8_account_72 ⟨Nat.le_of_ble_eq_true rfl, Nat.le_of_ble_eq_true rfl⟩ ?_
      obtain ⟨e0_75, e1_75⟩ := inj2 hF
      rw [← e0_75, ← e1_75] at hQ0
      rw [hQ0]
      exact ret_i hx hb hr hlocks hAe hK hP hD hS [0, 1] rfl rfl dX8_account_75
    · have hF := iff_ hF c1_8
      by_cases c2_8 : p1 = (2 : Int32)
      · have hF := ift hF c2_8
        refine lv_tableIn (tgt := 76) hx hb dX8_account_8 (by rw [c2_8]; decide) (by rw [c2_8]; decide) (by rw [c2_8]; rfl) (by decide) ?_
        refine lv_iconst (v := 0) hx hb dX8_account_76 (by decide) ?_
        refine lv_istore_n (lv' := [(3, .int (0 : Int32)), (2, .int (0 : Int32)), (0, .ref a_t), (1, .int p1)]) hx hb dX8_account_77 rfl hl (by decide) rfl (fun ls hl => ?_)
        exact k_78 fl (0 : Int32) p1 (0 : Int32) (0 : Int32) hF _ _ hP hD hS ls (lv_sub hl [2, 3, 1, 0] rfl)
      · have hF := iff_ hF c2_8
        by_cases c3_8 : p1 = (3 : Int32)
        · have hF := ift hF c3_8
          refine lv_tableIn (tgt := 104) hx hb dX8_account_8 (by rw [c3_8]; decide) (by rw [c3_8]; decide) (by rw [c3_8]; rfl) (by decide) ?_
          refine lv_aload_n hx hb dX8_account_104 rfl (lv_at hl 1 rfl) ?_
          refine va_get (D := D) (ci := 12) (v := .ref a_t_now) (C := RX8) (T := TX8) (N := 22) hx hb hts iX8_account_X8 hown hK hP 0 rfl rfl 0 (by decide) (hts (.fieldLink RX8 9 "SkipArchiveModel" "now" "[I") (List.mem_of_getElem? (i := 2) rfl)) (fun _ h9 => h9) rfl dX8_account_105 ?_
          refine lv_iconst (v := 1) hx hb dX8_account_108 (by decide) ?_
          obtain ⟨g_109, hF⟩ := gi_i hF
          refine va_iald hx hb hK hP 1 0 rfl rfl g_109 dX8_account_109 ?_
          obtain ⟨e0_110, e1_110⟩ := inj2 hF
          rw [← e0_110, ← e1_110] at hQ0
          rw [hQ0]
          exact ret_i hx hb hr hlocks hAe hK hP hD hS [0, 1] rfl rfl dX8_account_110
        · have hF := iff_ hF c3_8
          by_cases c4_8 : p1 = (4 : Int32)
          · have hF := ift hF c4_8
            refine lv_tableIn (tgt := 111) hx hb dX8_account_8 (by rw [c4_8]; decide) (by rw [c4_8]; decide) (by rw [c4_8]; rfl) (by decide) ?_
            refine lv_aload_n hx hb dX8_account_111 rfl (lv_at hl 1 rfl) ?_
            refine va_get (D := D) (ci := 12) (v := .ref a_t_now) (C := RX8) (T := TX8) (N := 22) hx hb hts iX8_account_X8 hown hK hP 0 rfl rfl 0 (by decide) (hts (.fieldLink RX8 9 "SkipArchiveModel" "now" "[I") (List.mem_of_getElem? (i := 2) rfl)) (fun _ h9 => h9) rfl dX8_account_112 ?_
            refine lv_iconst (v := 2) hx hb dX8_account_115 (by decide) ?_
            obtain ⟨g_116, hF⟩ := gi_i hF
            refine va_iald hx hb hK hP 1 0 rfl rfl g_116 dX8_account_116 ?_
            obtain ⟨e0_117, e1_117⟩ := inj2 hF
            rw [← e0_117, ← e1_117] at hQ0
            rw [hQ0]
            exact ret_i hx hb hr hlocks hAe hK hP hD hS [0, 1] rfl rfl dX8_account_117
          · have hF := iff_ hF c4_8
            by_cases c5_8 : p1 = (5 : Int32)
            · have hF := ift hF c5_8
              refine lv_tableIn (tgt := 118) hx hb dX8_account_8 (by rw [c5_8]; decide) (by rw [c5_8]; decide) (by rw [c5_8]; rfl) (by decide) ?_
              refine lv_aload_n hx hb dX8_account_118 rfl (lv_at hl 1 rfl) ?_
              refine va_get (D := D) (ci := 12) (v := .ref a_t_now) (C := RX8) (T := TX8) (N := 22) hx hb hts iX8_account_X8 hown hK hP 0 rfl rfl 0 (by decide) (hts (.fieldLink RX8 9 "SkipArchiveModel" "now" "[I") (List.mem_of_getElem? (i := 2) rfl)) (fun _ h9 => h9) rfl dX8_account_119 ?_
              refine lv_iconst (v := 3) hx hb dX8_account_122 (by decide) ?_
              obtain ⟨g_123, hF⟩ := gi_i hF
              refine va_iald hx hb hK hP 1 0 rfl rfl g_123 dX8_account_123 ?_
              obtain ⟨e0_124, e1_124⟩ := inj2 hF
              rw [← e0_124, ← e1_124] at hQ0
              rw [hQ0]
              exact ret_i hx hb hr hlocks hAe hK hP hD hS [0, 1] rfl rfl dX8_account_124
            · have hF := iff_ hF c5_8
              by_cases c6_8 : p1 = (6 : Int32)
              · have hF := ift hF c6_8
                refine lv_tableIn (tgt := 125) hx hb dX8_account_8 (by rw [c6_8]; decide) (by rw [c6_8]; decide) (by rw [c6_8]; rfl) (by decide) ?_
                refine lv_aload_n hx hb dX8_account_125 rfl (lv_at hl 1 rfl) ?_
                refine va_get (D := D) (ci := 12) (v := .ref a_t_now) (C := RX8) (T := TX8) (N := 22) hx hb hts iX8_account_X8 hown hK hP 0 rfl rfl 0 (by decide) (hts (.fieldLink RX8 9 "SkipArchiveModel" "now" "[I") (List.mem_of_getElem? (i := 2) rfl)) (fun _ h9 => h9) rfl dX8_account_126 ?_
                refine lv_iconst (v := 4) hx hb dX8_account_129 (by decide) ?_
                obtain ⟨g_130, hF⟩ := gi_i hF
                refine va_iald hx hb hK hP 1 0 rfl rfl g_130 dX8_account_130 ?_
                obtain ⟨r_131, hq_131, hF⟩ := bn_i hF
                refine cr_S (As := [.int (t_now (4 : Int32).toNatClampNeg)]) (rest := []) ⟨hx, hb, hml, hown, hts⟩ (c_J6_bitCount_0f7a4 l D y fl (t_now (4 : Int32).toNatClampNeg) r_131 hq_131) (va_cwS 1 hts gX8_account_J6_bitCount_0f7a4 rfl rfl rfl (by decide +kernel) ⟨Nat.le_of_ble_eq_true rfl, Nat.le_of_ble_eq_true rfl⟩) hK hP [] rfl rfl hl.1 rfl (Nat.le_of_ble_eq_true rfl) dX8_account_131 ⟨Nat.le_of_ble_eq_true rfl, Nat.le_of_ble_eq_true rfl⟩ ?_
                obtain ⟨e0_134, e1_134⟩ := inj2 hF
                rw [← e0_134, ← e1_134] at hQ0
                rw [hQ0]
                exact ret_i hx hb hr hlocks hAe hK hP hD hS [0, 1] rfl rfl dX8_account_134
              · have hF := iff_ hF c6_8
                by_cases c7_8 : p1 = (7 : Int32)
                · have hF := ift hF c7_8
                  refine lv_tableIn (tgt := 135) hx hb dX8_account_8 (by rw [c7_8]; decide) (by rw [c7_8]; decide) (by rw [c7_8]; rfl) (by decide) ?_
                  refine lv_iconst (v := 0) hx hb dX8_account_135 (by decide) ?_
                  refine lv_istore_n (lv' := [(3, .int (0 : Int32)), (2, .int (0 : Int32)), (0, .ref a_t), (1, .int p1)]) hx hb dX8_account_136 rfl hl (by decide) rfl (fun ls hl => ?_)
                  exact k_137 fl (0 : Int32) p1 (0 : Int32) (0 : Int32) hF _ _ hP hD hS ls (lv_sub hl [2, 3, 1, 0] rfl)
                · have hF := iff_ hF c7_8
                  by_cases c8_8 : p1 = (8 : Int32)
                  · have hF := ift hF c8_8
                    refine lv_tableIn (tgt := 167) hx hb dX8_account_8 (by rw [c8_8]; decide) (by rw [c8_8]; decide) (by rw [c8_8]; rfl) (by decide) ?_
                    refine lv_aload_n hx hb dX8_account_167 rfl (lv_at hl 1 rfl) ?_
                    refine va_get (D := D) (ci := 12) (v := .int t_undos) (C := RX8) (T := TX8) (N := 22) hx hb hts iX8_account_X8 hown hK hP 0 rfl rfl 3 (by decide) (hts (.fieldLink RX8 42 "SkipArchiveModel" "undos" "I") (List.mem_of_getElem? (i := 7) rfl)) (fun _ h9 => h9) rfl dX8_account_168 ?_
                    obtain ⟨e0_171, e1_171⟩ := inj2 hF
                    rw [← e0_171, ← e1_171] at hQ0
                    rw [hQ0]
                    exact ret_i hx hb hr hlocks hAe hK hP hD hS [0, 1] rfl rfl dX8_account_171
                  · have hF := iff_ hF c8_8
                    by_cases c9_8 : p1 = (9 : Int32)
                    · have hF := ift hF c9_8
                      refine lv_tableIn (tgt := 172) hx hb dX8_account_8 (by rw [c9_8]; decide) (by rw [c9_8]; decide) (by rw [c9_8]; rfl) (by decide) ?_
                      refine lv_aload_n hx hb dX8_account_172 rfl (lv_at hl 1 rfl) ?_
                      refine va_get (D := D) (ci := 12) (v := .int t_length) (C := RX8) (T := TX8) (N := 22) hx hb hts iX8_account_X8 hown hK hP 0 rfl rfl 9 (by decide) (hts (.fieldLink RX8 167 "SkipArchiveModel" "length" "I") (List.mem_of_getElem? (i := 8) rfl)) (fun _ h9 => h9) rfl dX8_account_173 ?_
                      obtain ⟨e0_176, e1_176⟩ := inj2 hF
                      rw [← e0_176, ← e1_176] at hQ0
                      rw [hQ0]
                      exact ret_i hx hb hr hlocks hAe hK hP hD hS [0, 1] rfl rfl dX8_account_176
                    · have hF := iff_ hF c9_8
                      refine lv_tableOut (tgt := 177) hx hb dX8_account_8 (tbl_out (x := p1) (lo := 0) (hi := 9) (fun v h1 h2 q => if z : v = 0 then c0_8 (Int32.toInt_inj.mp (q.trans z)) else if z : v = 1 then c1_8 (Int32.toInt_inj.mp (q.trans z)) else if z : v = 2 then c2_8 (Int32.toInt_inj.mp (q.trans z)) else if z : v = 3 then c3_8 (Int32.toInt_inj.mp (q.trans z)) else if z : v = 4 then c4_8 (Int32.toInt_inj.mp (q.trans z)) else if z : v = 5 then c5_8 (Int32.toInt_inj.mp (q.trans z)) else if z : v = 6 then c6_8 (Int32.toInt_inj.mp (q.trans z)) else if z : v = 7 then c7_8 (Int32.toInt_inj.mp (q.trans z)) else if z : v = 8 then c8_8 (Int32.toInt_inj.mp (q.trans z)) else if z : v = 9 then c9_8 (Int32.toInt_inj.mp (q.trans z)) else by omega)) (by decide) ?_
                      refine lv_aload_n hx hb dX8_account_177 rfl (lv_at hl 1 rfl) ?_
                      refine lv_iconst (v := 1) hx hb dX8_account_178 (by decide) ?_
                      obtain ⟨r_179, t_thrown_179, hq_179, hF⟩ := bn2_i hF
                      refine cm_Vi (As := [.int (1 : Int32)]) (rest := []) (wr := [(a_t_now, .inl (y 0, 77, .inl t_now))]) ⟨hx, hb, hml, hown, hts⟩ (c_X8_raises l D y fl H.size a_t a_t_now a_t_tried a_t_kept a_t_saved a_t_line a_t_text a_t_told a_t_way t_undos t_isSaved t_lined t_length t_at t_order t_fault t_reason t_detail t_index t_answer (0 : Int32) t_went t_fell (1 : Int32) r_179 t_thrown_179 hq_179) (cwV 1 hts gX8_account_X8_raises rfl rfl rfl (by decide +kernel) ⟨Nat.le_of_ble_eq_true rfl, Nat.le_of_ble_eq_true rfl⟩) hK hP hD hS hA [0] [1] rfl rfl rfl rfl (by decide) rfl rfl rfl hl.1 rfl (Nat.le_of_ble_eq_true rfl) dX8_account_179 ⟨Nat.le_of_ble_eq_true rfl, Nat.le_of_ble_eq_true rfl⟩ (fun H locs hP hD hS => ?_)
                      have hP : va_P D vwCl [(a_t_now, .inl (y 0, 77, .inl t_now)), (a_t, .inr (12, [.ref a_t_now, .ref a_t_tried, .ref a_t_kept, .int t_undos, .ref a_t_saved, .int t_isSaved, .ref a_t_line, .int t_lined, .ref a_t_text, .int t_length, .int t_at, .int t_order, .ref a_t_told, .int t_fault, .int t_reason, .int t_detail, .int t_index, .int t_answer, .int t_thrown_179, .ref a_t_way, .int t_went, .int t_fell]))] H := hP
                      have hD : va_D A [(a_t_now, .inl (y 0, 77, .inl t_now)), (a_t, .inr (12, [.ref a_t_now, .ref a_t_tried, .ref a_t_kept, .int t_undos, .ref a_t_saved, .int t_isSaved, .ref a_t_line, .int t_lined, .ref a_t_text, .int t_length, .int t_at, .int t_order, .ref a_t_told, .int t_fault, .int t_reason, .int t_detail, .int t_index, .int t_answer, .int t_thrown_179, .ref a_t_way, .int t_went, .int t_fell]))] := hD
                      obtain ⟨e0_182, e1_182⟩ := inj2 hF
                      rw [← e0_182, ← e1_182] at hQ0
                      rw [hQ0]
                      exact ret_i hx hb hr hlocks hAe hK hP hD hS [1, 0] rfl rfl dX8_account_182
def F_X8_undo_30 (fl : Nat) (t_kept : Nat → Int32) : Nat → Int32 → Int32 → (Nat → Int32) → Int32 → Option (Int32 × Int32 × Int32 × (Nat → Int32))
  | 0, _, _, _, _ => none
  | n + 1, t_undos_w, t_thrown_w, t_now_w, x1 => if (77 : Int32) ≤ x1 then (some (t_undos_w, t_undos_w, t_thrown_w, t_now_w)) else (gi (((77 : Int32) * t_undos_w) + x1) 616 (gi x1 77 (F_X8_undo_30 fl t_kept n t_undos_w t_thrown_w (upd t_now_w x1.toNatClampNeg (t_kept (((77 : Int32) * t_undos_w) + x1).toNatClampNeg)) (x1 + (1 : Int32)))))
def F_X8_undo (fl : Nat) (t_undos : Int32) (t_thrown : Int32) (t_now : Nat → Int32) (t_kept : Nat → Int32) : Option (Int32 × Int32 × Int32 × (Nat → Int32)) := if t_undos = 0 then (bn2 (F_X8_raises fl (0 : Int32) (1 : Int32)) fun r_14 t_thrown_14 => some (r_14, t_undos, t_thrown_14, t_now)) else (F_X8_undo_30 fl t_kept fl (t_undos - (1 : Int32)) (0 : Int32) t_now (0 : Int32))
theorem iX8_undo_X8 : ∀ w ∈ u_ws RX8 TX8 22, w ∈ wsX8_undo := fun w h => List.mem_cons_of_mem _ (List.mem_append_left _ (List.mem_append_right _ h))
set_option maxHeartbeats 4000000 in
set_option maxRecDepth 100000 in
theorem c_X8_undo (l : Launch) (D : va_G) (y : Nat → ClassId) (fl : Nat) (sz : Nat) (a_t : Nat) (a_t_now : Nat) (a_t_tried : Nat) (a_t_kept : Nat) (a_t_saved : Nat) (a_t_line : Nat) (a_t_text : Nat) (a_t_told : Nat) (a_t_way : Nat) (t_undos : Int32) (t_isSaved : Int32) (t_lined : Int32) (t_length : Int32) (t_at : Int32) (t_order : Int32) (t_fault : Int32) (t_reason : Int32) (t_detail : Int32) (t_index : Int32) (t_answer : Int32) (t_thrown : Int32) (t_went : Int32) (t_fell : Int32) (t_now : Nat → Int32) (t_kept : Nat → Int32) (r : Int32) (t_undos' : Int32) (t_thrown' : Int32) (t_now' : Nat → Int32) (hF : F_X8_undo fl t_undos t_thrown t_now t_kept = some (r, t_undos', t_thrown', t_now')) : Met l yX8_undo wsX8_undo (rmq 1 21) (wrP D y [(a_t, .inr (12, [.ref a_t_now, .ref a_t_tried, .ref a_t_kept, .int t_undos, .ref a_t_saved, .int t_isSaved, .ref a_t_line, .int t_lined, .ref a_t_text, .int t_length, .int t_at, .int t_order, .ref a_t_told, .int t_fault, .int t_reason, .int t_detail, .int t_index, .int t_answer, .int t_thrown, .ref a_t_way, .int t_went, .int t_fell])), (a_t_now, .inl (y 0, 77, .inl t_now)), (a_t_kept, .inl (y 0, 616, .inl t_kept))] sz [.ref a_t]) (wQi D y r [(a_t, .inr (12, [.ref a_t_now, .ref a_t_tried, .ref a_t_kept, .int t_undos', .ref a_t_saved, .int t_isSaved, .ref a_t_line, .int t_lined, .ref a_t_text, .int t_length, .int t_at, .int t_order, .ref a_t_told, .int t_fault, .int t_reason, .int t_detail, .int t_index, .int t_answer, .int t_thrown', .ref a_t_way, .int t_went, .int t_fell])), (a_t_now, .inl (y 0, 77, .inl t_now')), (a_t_kept, .inl (y 0, 616, .inl t_kept))] [(a_t, .inr (12, [.ref a_t_now, .ref a_t_tried, .ref a_t_kept, .int t_undos, .ref a_t_saved, .int t_isSaved, .ref a_t_line, .int t_lined, .ref a_t_text, .int t_length, .int t_at, .int t_order, .ref a_t_told, .int t_fault, .int t_reason, .int t_detail, .int t_index, .int t_answer, .int t_thrown, .ref a_t_way, .int t_went, .int t_fell])), (a_t_now, .inl (y 0, 77, .inl t_now)), (a_t_kept, .inl (y 0, 616, .inl t_kept))] sz) 0 0 (va_A [(a_t, .inr (12, [.ref a_t_now, .ref a_t_tried, .ref a_t_kept, .int t_undos, .ref a_t_saved, .int t_isSaved, .ref a_t_line, .int t_lined, .ref a_t_text, .int t_length, .int t_at, .int t_order, .ref a_t_told, .int t_fault, .int t_reason, .int t_detail, .int t_index, .int t_answer, .int t_thrown, .ref a_t_way, .int t_went, .int t_fell])), (a_t_now, .inl (y 0, 77, .inl t_now)), (a_t_kept, .inl (y 0, 616, .inl t_kept))] sz) := by
  refine Met.ofW (cc := cX8_undo) (maxL := 2) (ret := (some .int)) (by decide) rfl ?_
  intro p e s m args below meth c s₁ B hml hv
  obtain ⟨hav, hsz, hP, hK, hD0⟩ := hv
  have hx := B.exec
  have hb := B.bytes
  have hr := B.returns
  have hts := atoms_spec (ws := wsX8_undo) B.pre
  have hown : s.vm.findClass RX8 = some m.cls := findClass_of_methodNamed B.named
  have hlocks := B.notSynchronized
  subst hsz
  have hD := hD0.self (sz := s.heap.size)
  obtain ⟨A, hAe⟩ : ∃ A : Nat → Prop, va_A [(a_t, .inr (12, [.ref a_t_now, .ref a_t_tried, .ref a_t_kept, .int t_undos, .ref a_t_saved, .int t_isSaved, .ref a_t_line, .int t_lined, .ref a_t_text, .int t_length, .int t_at, .int t_order, .ref a_t_told, .int t_fault, .int t_reason, .int t_detail, .int t_index, .int t_answer, .int t_thrown, .ref a_t_way, .int t_went, .int t_fell])), (a_t_now, .inl (y 0, 77, .inl t_now)), (a_t_kept, .inl (y 0, 616, .inl t_kept))] s.heap.size = A := ⟨_, rfl⟩
  rw [hAe] at hD
  have hA : ∀ q, s.heap.size ≤ q → A q := fun q h => by rw [← hAe]; exact Or.inr h
  have hS : va_S A s.heap s.heap [] := va_S.rf
  refine W_q (R1 := (rmq 1 21)) rfl (fun Q0 hQ0 => ?_)
  unfold F_X8_undo at hF
  have k_30 : ∀ (n : Nat) (t_undos_w : Int32) (t_thrown_w : Int32) (t_now_w : Nat → Int32) (x1 : Int32), F_X8_undo_30 fl t_kept n t_undos_w t_thrown_w t_now_w x1 = some (r, t_undos', t_thrown', t_now') → ∀ (H : Heap) (locs : List Loc), va_P D vwCl [(a_t, .inr (12, [.ref a_t_now, .ref a_t_tried, .ref a_t_kept, .int t_undos_w, .ref a_t_saved, .int t_isSaved, .ref a_t_line, .int t_lined, .ref a_t_text, .int t_length, .int t_at, .int t_order, .ref a_t_told, .int t_fault, .int t_reason, .int t_detail, .int t_index, .int t_answer, .int t_thrown_w, .ref a_t_way, .int t_went, .int t_fell])), (a_t_now, .inl (y 0, 77, .inl t_now_w)), (a_t_kept, .inl (y 0, 616, .inl t_kept))] H → va_D A [(a_t, .inr (12, [.ref a_t_now, .ref a_t_tried, .ref a_t_kept, .int t_undos_w, .ref a_t_saved, .int t_isSaved, .ref a_t_line, .int t_lined, .ref a_t_text, .int t_length, .int t_at, .int t_order, .ref a_t_told, .int t_fault, .int t_reason, .int t_detail, .int t_index, .int t_answer, .int t_thrown_w, .ref a_t_way, .int t_went, .int t_fell])), (a_t_now, .inl (y 0, 77, .inl t_now_w)), (a_t_kept, .inl (y 0, 616, .inl t_kept))] → va_S A s.heap H locs → ∀ (ls : Array Slot), lv_has ls 2 [(0, .ref a_t), (1, .int x1)] → W p l e (rmq 1 21) s m args below meth c H locs 0 0 Q0 (F0 m 30 ls []) := by
    intro n
    induction n with
    | zero => intro t_undos_w t_thrown_w t_now_w x1 hF; rw [F_X8_undo_30] at hF; cases hF
    | succ n ih =>
      intro t_undos_w t_thrown_w t_now_w x1 hF H locs hP hD hS ls hl
      rw [F_X8_undo_30] at hF
      refine lv_iload_n hx hb dX8_undo_30 rfl (lv_at hl 1 rfl) ?_
      refine lv_bipush (v := 77) hx hb dX8_undo_31 (by decide) ?_
      refine lv_icmp_ge (tgt := 62) hx hb dX8_undo_33 (by decide) (fun c_33 => ?_) (fun c_33 => ?_)
      · have hF := ift hF c_33
        refine lv_aload_n hx hb dX8_undo_62 rfl (lv_at hl 0 rfl) ?_
        refine va_get (D := D) (ci := 12) (v := .int t_undos_w) (C := RX8) (T := TX8) (N := 22) hx hb hts iX8_undo_X8 hown hK hP 0 rfl rfl 3 (by decide) (hts (.fieldLink RX8 42 "SkipArchiveModel" "undos" "I") (List.mem_of_getElem? (i := 2) rfl)) (fun _ h9 => h9) rfl dX8_undo_63 ?_
        obtain ⟨e0_66, e1_66, e2_66, e3_66⟩ := inj4 hF
        rw [← e0_66, ← e1_66, ← e2_66, ← e3_66] at hQ0
        rw [hQ0]
        exact ret_i hx hb hr hlocks hAe hK hP hD hS [0, 1, 2] rfl rfl dX8_undo_66
      · have hF := iff_ hF c_33
        refine lv_aload_n hx hb dX8_undo_36 rfl (lv_at hl 0 rfl) ?_
        refine va_get (D := D) (ci := 12) (v := .ref a_t_now) (C := RX8) (T := TX8) (N := 22) hx hb hts iX8_undo_X8 hown hK hP 0 rfl rfl 0 (by decide) (hts (.fieldLink RX8 9 "SkipArchiveModel" "now" "[I") (List.mem_of_getElem? (i := 3) rfl)) (fun _ h9 => h9) rfl dX8_undo_37 ?_
        refine lv_iload_n hx hb dX8_undo_40 rfl (lv_at hl 1 rfl) ?_
        refine lv_aload_n hx hb dX8_undo_41 rfl (lv_at hl 0 rfl) ?_
        refine va_get (D := D) (ci := 12) (v := .ref a_t_kept) (C := RX8) (T := TX8) (N := 22) hx hb hts iX8_undo_X8 hown hK hP 0 rfl rfl 2 (by decide) (hts (.fieldLink RX8 16 "SkipArchiveModel" "kept" "[I") (List.mem_of_getElem? (i := 4) rfl)) (fun _ h9 => h9) rfl dX8_undo_42 ?_
        refine lv_bipush (v := 77) hx hb dX8_undo_45 (by decide) ?_
        refine lv_aload_n hx hb dX8_undo_47 rfl (lv_at hl 0 rfl) ?_
        refine va_get (D := D) (ci := 12) (v := .int t_undos_w) (C := RX8) (T := TX8) (N := 22) hx hb hts iX8_undo_X8 hown hK hP 0 rfl rfl 3 (by decide) (hts (.fieldLink RX8 42 "SkipArchiveModel" "undos" "I") (List.mem_of_getElem? (i := 2) rfl)) (fun _ h9 => h9) rfl dX8_undo_48 ?_
        refine lv_imul hx hb dX8_undo_51 ?_
        refine lv_iload_n hx hb dX8_undo_52 rfl (lv_at hl 1 rfl) ?_
        refine lv_iadd hx hb dX8_undo_53 ?_
        obtain ⟨g_54, hF⟩ := gi_i hF
        refine va_iald hx hb hK hP 2 0 rfl rfl g_54 dX8_undo_54 ?_
        obtain ⟨g_55, hF⟩ := gi_i hF
        refine va_iast hx hb hK hP hD hS 1 0 rfl rfl g_55 dX8_undo_55 (fun H locs hP hD hS => ?_)
        have hP : va_P D vwCl [(a_t, .inr (12, [.ref a_t_now, .ref a_t_tried, .ref a_t_kept, .int t_undos_w, .ref a_t_saved, .int t_isSaved, .ref a_t_line, .int t_lined, .ref a_t_text, .int t_length, .int t_at, .int t_order, .ref a_t_told, .int t_fault, .int t_reason, .int t_detail, .int t_index, .int t_answer, .int t_thrown_w, .ref a_t_way, .int t_went, .int t_fell])), (a_t_now, .inl (y 0, 77, .inl (upd t_now_w x1.toNatClampNeg (t_kept (((77 : Int32) * t_undos_w) + x1).toNatClampNeg)))), (a_t_kept, .inl (y 0, 616, .inl t_kept))] H := hP
        have hD : va_D A [(a_t, .inr (12, [.ref a_t_now, .ref a_t_tried, .ref a_t_kept, .int t_undos_w, .ref a_t_saved, .int t_isSaved, .ref a_t_line, .int t_lined, .ref a_t_text, .int t_length, .int t_at, .int t_order, .ref a_t_told, .int t_fault, .int t_reason, .int t_detail, .int t_index, .int t_answer, .int t_thrown_w, .ref a_t_way, .int t_went, .int t_fell])), (a_t_now, .inl (y 0, 77, .inl (upd t_now_w x1.toNatClampNeg (t_kept (((77 : Int32) * t_undos_w) + x1).toNatClampNeg)))), (a_t_kept, .inl (y 0, 616, .inl t_kept))] := hD
        refine lv_iinc (v := x1 + (1 : Int32)) (lv' := [(1, .int (x1 + (1 : Int32))), (0, .ref a_t)]) hx hb dX8_undo_56 hl (k := 1) rfl rfl (by decide) rfl (fun ls hl => ?_)
        refine lv_goto (tgt := 30) hx hb dX8_undo_59 (by decide) ?_
        exact ih t_undos_w t_thrown_w (upd t_now_w x1.toNatClampNeg (t_kept (((77 : Int32) * t_undos_w) + x1).toNatClampNeg)) (x1 + (1 : Int32)) hF _ _ hP hD hS ls (lv_sub hl [1, 0] rfl)
  refine W_entry hav (Nat.le_of_ble_eq_true rfl) (fun ls hl => ?_)
  have hl : lv_has ls 2 [(0, .ref a_t)] := hl
  refine lv_aload_n hx hb dX8_undo_0 rfl (lv_at hl 0 rfl) ?_
  refine lv_iconst (v := 0) hx hb dX8_undo_1 (by decide) ?_
  refine va_put (D := D) (ci := 12) (v := .int (0 : Int32)) (ty := .int) (C := RX8) (T := TX8) (N := 22) hx hb hts iX8_undo_X8 tyX8 tyX8_ok nmX8 hown hK hP hD hS 0 rfl rfl 18 (by decide) (hts (.fieldLink RX8 39 "SkipArchiveModel" "thrown" "I") (List.mem_of_getElem? (i := 1) rfl)) (fun _ h9 => h9) rfl (by decide +kernel) rfl rfl (Nat.le_of_ble_eq_true rfl) dX8_undo_2 (fun H locs hP hD hS => ?_)
  have hP : va_P D vwCl [(a_t, .inr (12, [.ref a_t_now, .ref a_t_tried, .ref a_t_kept, .int t_undos, .ref a_t_saved, .int t_isSaved, .ref a_t_line, .int t_lined, .ref a_t_text, .int t_length, .int t_at, .int t_order, .ref a_t_told, .int t_fault, .int t_reason, .int t_detail, .int t_index, .int t_answer, .int (0 : Int32), .ref a_t_way, .int t_went, .int t_fell])), (a_t_now, .inl (y 0, 77, .inl t_now)), (a_t_kept, .inl (y 0, 616, .inl t_kept))] H := hP
  have hD : va_D A [(a_t, .inr (12, [.ref a_t_now, .ref a_t_tried, .ref a_t_kept, .int t_undos, .ref a_t_saved, .int t_isSaved, .ref a_t_line, .int t_lined, .ref a_t_text, .int t_length, .int t_at, .int t_order, .ref a_t_told, .int t_fault, .int t_reason, .int t_detail, .int t_index, .int t_answer, .int (0 : Int32), .ref a_t_way, .int t_went, .int t_fell])), (a_t_now, .inl (y 0, 77, .inl t_now)), (a_t_kept, .inl (y 0, 616, .inl t_kept))] := hD
  refine lv_aload_n hx hb dX8_undo_5 rfl (lv_at hl 0 rfl) ?_
  refine va_get (D := D) (ci := 12) (v := .int t_undos) (C := RX8) (T := TX8) (N := 22) hx hb hts iX8_undo_X8 hown hK hP 0 rfl rfl 3 (by decide) (hts (.fieldLink RX8 42 "SkipArchiveModel" "undos" "I") (List.mem_of_getElem? (i := 2) rfl)) (fun _ h9 => h9) rfl dX8_undo_6 ?_
  refine lv_if_ne (tgt := 18) hx hb dX8_undo_9 (by decide) (fun c_9 => ?_) (fun c_9 => ?_)
  · have hF := iff_ hF c_9
    refine lv_aload_n hx hb dX8_undo_18 rfl (lv_at hl 0 rfl) ?_
    refine lv_dup hx hb dX8_undo_19 rfl ?_
    refine va_get (D := D) (ci := 12) (v := .int t_undos) (C := RX8) (T := TX8) (N := 22) hx hb hts iX8_undo_X8 hown hK hP 0 rfl rfl 3 (by decide) (hts (.fieldLink RX8 42 "SkipArchiveModel" "undos" "I") (List.mem_of_getElem? (i := 2) rfl)) (fun _ h9 => h9) rfl dX8_undo_20 ?_
    refine lv_iconst (v := 1) hx hb dX8_undo_23 (by decide) ?_
    refine lv_isub hx hb dX8_undo_24 ?_
    refine va_put (D := D) (ci := 12) (v := .int (t_undos - (1 : Int32))) (ty := .int) (C := RX8) (T := TX8) (N := 22) hx hb hts iX8_undo_X8 tyX8 tyX8_ok nmX8 hown hK hP hD hS 0 rfl rfl 3 (by decide) (hts (.fieldLink RX8 42 "SkipArchiveModel" "undos" "I") (List.mem_of_getElem? (i := 2) rfl)) (fun _ h9 => h9) rfl (by decide +kernel) rfl rfl (Nat.le_of_ble_eq_true rfl) dX8_undo_25 (fun H locs hP hD hS => ?_)
    have hP : va_P D vwCl [(a_t, .inr (12, [.ref a_t_now, .ref a_t_tried, .ref a_t_kept, .int (t_undos - (1 : Int32)), .ref a_t_saved, .int t_isSaved, .ref a_t_line, .int t_lined, .ref a_t_text, .int t_length, .int t_at, .int t_order, .ref a_t_told, .int t_fault, .int t_reason, .int t_detail, .int t_index, .int t_answer, .int (0 : Int32), .ref a_t_way, .int t_went, .int t_fell])), (a_t_now, .inl (y 0, 77, .inl t_now)), (a_t_kept, .inl (y 0, 616, .inl t_kept))] H := hP
    have hD : va_D A [(a_t, .inr (12, [.ref a_t_now, .ref a_t_tried, .ref a_t_kept, .int (t_undos - (1 : Int32)), .ref a_t_saved, .int t_isSaved, .ref a_t_line, .int t_lined, .ref a_t_text, .int t_length, .int t_at, .int t_order, .ref a_t_told, .int t_fault, .int t_reason, .int t_detail, .int t_index, .int t_answer, .int (0 : Int32), .ref a_t_way, .int t_went, .int t_fell])), (a_t_now, .inl (y 0, 77, .inl t_now)), (a_t_kept, .inl (y 0, 616, .inl t_kept))] := hD
    refine lv_iconst (v := 0) hx hb dX8_undo_28 (by decide) ?_
    refine lv_istore_n (lv' := [(1, .int (0 : Int32)), (0, .ref a_t)]) hx hb dX8_undo_29 rfl hl (by decide) rfl (fun ls hl => ?_)
    exact k_30 fl (t_undos - (1 : Int32)) (0 : Int32) t_now (0 : Int32) hF _ _ hP hD hS ls (lv_sub hl [1, 0] rfl)
  · have hF := ift hF c_9
    refine lv_aload_n hx hb dX8_undo_12 rfl (lv_at hl 0 rfl) ?_
    refine lv_iconst (v := 1) hx hb dX8_undo_13 (by decide) ?_
    obtain ⟨r_14, t_thrown_14, hq_14, hF⟩ := bn2_i hF
    refine cm_Vi (As := [.int (1 : Int32)]) (rest := []) (wr := [(a_t_now, .inl (y 0, 77, .inl t_now)), (a_t_kept, .inl (y 0, 616, .inl t_kept))]) ⟨hx, hb, hml, hown, hts⟩ (c_X8_raises l D y fl H.size a_t a_t_now a_t_tried a_t_kept a_t_saved a_t_line a_t_text a_t_told a_t_way t_undos t_isSaved t_lined t_length t_at t_order t_fault t_reason t_detail t_index t_answer (0 : Int32) t_went t_fell (1 : Int32) r_14 t_thrown_14 hq_14) (cwV 1 hts gX8_undo_X8_raises rfl rfl rfl (by decide +kernel) ⟨Nat.le_of_ble_eq_true rfl, Nat.le_of_ble_eq_true rfl⟩) hK hP hD hS hA [0] [1, 2] rfl rfl rfl rfl (by decide) rfl rfl rfl hl.1 rfl (Nat.le_of_ble_eq_true rfl) dX8_undo_14 ⟨Nat.le_of_ble_eq_true rfl, Nat.le_of_ble_eq_true rfl⟩ (fun H locs hP hD hS => ?_)
    have hP : va_P D vwCl [(a_t_now, .inl (y 0, 77, .inl t_now)), (a_t_kept, .inl (y 0, 616, .inl t_kept)), (a_t, .inr (12, [.ref a_t_now, .ref a_t_tried, .ref a_t_kept, .int t_undos, .ref a_t_saved, .int t_isSaved, .ref a_t_line, .int t_lined, .ref a_t_text, .int t_length, .int t_at, .int t_order, .ref a_t_told, .int t_fault, .int t_reason, .int t_detail, .int t_index, .int t_answer, .int t_thrown_14, .ref a_t_way, .int t_went, .int t_fell]))] H := hP
    have hD : va_D A [(a_t_now, .inl (y 0, 77, .inl t_now)), (a_t_kept, .inl (y 0, 616, .inl t_kept)), (a_t, .inr (12, [.ref a_t_now, .ref a_t_tried, .ref a_t_kept, .int t_undos, .ref a_t_saved, .int t_isSaved, .ref a_t_line, .int t_lined, .ref a_t_text, .int t_length, .int t_at, .int t_order, .ref a_t_told, .int t_fault, .int t_reason, .int t_detail, .int t_index, .int t_answer, .int t_thrown_14, .ref a_t_way, .int t_went, .int t_fell]))] := hD
    obtain ⟨e0_17, e1_17, e2_17, e3_17⟩ := inj4 hF
    rw [← e0_17, ← e1_17, ← e2_17, ← e3_17] at hQ0
    rw [hQ0]
    exact ret_i hx hb hr hlocks hAe hK hP hD hS [2, 0, 1] rfl rfl dX8_undo_17
def F_X8_save_12 (fl : Nat) (t_now : Nat → Int32) : Nat → Int32 → Int32 → (Nat → Int32) → Int32 → Option (Int32 × Int32 × Int32 × (Nat → Int32))
  | 0, _, _, _, _ => none
  | n + 1, t_isSaved_w, t_thrown_w, t_saved_w, x1 => if (77 : Int32) ≤ x1 then (gi (0 : Int32) 77 (some (t_now (0 : Int32).toNatClampNeg, t_isSaved_w, t_thrown_w, t_saved_w))) else (gi x1 77 (gi x1 77 (F_X8_save_12 fl t_now n t_isSaved_w t_thrown_w (upd t_saved_w x1.toNatClampNeg (t_now x1.toNatClampNeg)) (x1 + (1 : Int32)))))
def F_X8_save (fl : Nat) (t_isSaved : Int32) (t_thrown : Int32) (t_now : Nat → Int32) (t_saved : Nat → Int32) : Option (Int32 × Int32 × Int32 × (Nat → Int32)) := F_X8_save_12 fl t_now fl (1 : Int32) (0 : Int32) t_saved (0 : Int32)
theorem iX8_save_X8 : ∀ w ∈ u_ws RX8 TX8 22, w ∈ wsX8_save := fun w h => List.mem_cons_of_mem _ (List.mem_append_left _ (List.mem_append_right _ h))
set_option maxHeartbeats 4000000 in
set_option maxRecDepth 100000 in
theorem c_X8_save (l : Launch) (D : va_G) (y : Nat → ClassId) (fl : Nat) (sz : Nat) (a_t : Nat) (a_t_now : Nat) (a_t_tried : Nat) (a_t_kept : Nat) (a_t_saved : Nat) (a_t_line : Nat) (a_t_text : Nat) (a_t_told : Nat) (a_t_way : Nat) (t_undos : Int32) (t_isSaved : Int32) (t_lined : Int32) (t_length : Int32) (t_at : Int32) (t_order : Int32) (t_fault : Int32) (t_reason : Int32) (t_detail : Int32) (t_index : Int32) (t_answer : Int32) (t_thrown : Int32) (t_went : Int32) (t_fell : Int32) (t_now : Nat → Int32) (t_saved : Nat → Int32) (r : Int32) (t_isSaved' : Int32) (t_thrown' : Int32) (t_saved' : Nat → Int32) (hF : F_X8_save fl t_isSaved t_thrown t_now t_saved = some (r, t_isSaved', t_thrown', t_saved')) : Met l yX8_save wsX8_save (rmq 0 0) (wrP D y [(a_t, .inr (12, [.ref a_t_now, .ref a_t_tried, .ref a_t_kept, .int t_undos, .ref a_t_saved, .int t_isSaved, .ref a_t_line, .int t_lined, .ref a_t_text, .int t_length, .int t_at, .int t_order, .ref a_t_told, .int t_fault, .int t_reason, .int t_detail, .int t_index, .int t_answer, .int t_thrown, .ref a_t_way, .int t_went, .int t_fell])), (a_t_now, .inl (y 0, 77, .inl t_now)), (a_t_saved, .inl (y 0, 77, .inl t_saved))] sz [.ref a_t]) (wQi D y r [(a_t, .inr (12, [.ref a_t_now, .ref a_t_tried, .ref a_t_kept, .int t_undos, .ref a_t_saved, .int t_isSaved', .ref a_t_line, .int t_lined, .ref a_t_text, .int t_length, .int t_at, .int t_order, .ref a_t_told, .int t_fault, .int t_reason, .int t_detail, .int t_index, .int t_answer, .int t_thrown', .ref a_t_way, .int t_went, .int t_fell])), (a_t_now, .inl (y 0, 77, .inl t_now)), (a_t_saved, .inl (y 0, 77, .inl t_saved'))] [(a_t, .inr (12, [.ref a_t_now, .ref a_t_tried, .ref a_t_kept, .int t_undos, .ref a_t_saved, .int t_isSaved, .ref a_t_line, .int t_lined, .ref a_t_text, .int t_length, .int t_at, .int t_order, .ref a_t_told, .int t_fault, .int t_reason, .int t_detail, .int t_index, .int t_answer, .int t_thrown, .ref a_t_way, .int t_went, .int t_fell])), (a_t_now, .inl (y 0, 77, .inl t_now)), (a_t_saved, .inl (y 0, 77, .inl t_saved))] sz) 0 0 (va_A [(a_t, .inr (12, [.ref a_t_now, .ref a_t_tried, .ref a_t_kept, .int t_undos, .ref a_t_saved, .int t_isSaved, .ref a_t_line, .int t_lined, .ref a_t_text, .int t_length, .int t_at, .int t_order, .ref a_t_told, .int t_fault, .int t_reason, .int t_detail, .int t_index, .int t_answer, .int t_thrown, .ref a_t_way, .int t_went, .int t_fell])), (a_t_now, .inl (y 0, 77, .inl t_now)), (a_t_saved, .inl (y 0, 77, .inl t_saved))] sz) := by
  refine Met.ofW (cc := cX8_save) (maxL := 2) (ret := (some .int)) (by decide) rfl ?_
  intro p e s m args below meth c s₁ B hml hv
  obtain ⟨hav, hsz, hP, hK, hD0⟩ := hv
  have hx := B.exec
  have hb := B.bytes
  have hr := B.returns
  have hts := atoms_spec (ws := wsX8_save) B.pre
  have hown : s.vm.findClass RX8 = some m.cls := findClass_of_methodNamed B.named
  have hlocks := B.notSynchronized
  subst hsz
  have hD := hD0.self (sz := s.heap.size)
  obtain ⟨A, hAe⟩ : ∃ A : Nat → Prop, va_A [(a_t, .inr (12, [.ref a_t_now, .ref a_t_tried, .ref a_t_kept, .int t_undos, .ref a_t_saved, .int t_isSaved, .ref a_t_line, .int t_lined, .ref a_t_text, .int t_length, .int t_at, .int t_order, .ref a_t_told, .int t_fault, .int t_reason, .int t_detail, .int t_index, .int t_answer, .int t_thrown, .ref a_t_way, .int t_went, .int t_fell])), (a_t_now, .inl (y 0, 77, .inl t_now)), (a_t_saved, .inl (y 0, 77, .inl t_saved))] s.heap.size = A := ⟨_, rfl⟩
  rw [hAe] at hD
  have hA : ∀ q, s.heap.size ≤ q → A q := fun q h => by rw [← hAe]; exact Or.inr h
  have hS : va_S A s.heap s.heap [] := va_S.rf
  refine W_q (R1 := (rmq 0 0)) rfl (fun Q0 hQ0 => ?_)
  unfold F_X8_save at hF
  have k_12 : ∀ (n : Nat) (t_isSaved_w : Int32) (t_thrown_w : Int32) (t_saved_w : Nat → Int32) (x1 : Int32), F_X8_save_12 fl t_now n t_isSaved_w t_thrown_w t_saved_w x1 = some (r, t_isSaved', t_thrown', t_saved') → ∀ (H : Heap) (locs : List Loc), va_P D vwCl [(a_t, .inr (12, [.ref a_t_now, .ref a_t_tried, .ref a_t_kept, .int t_undos, .ref a_t_saved, .int t_isSaved_w, .ref a_t_line, .int t_lined, .ref a_t_text, .int t_length, .int t_at, .int t_order, .ref a_t_told, .int t_fault, .int t_reason, .int t_detail, .int t_index, .int t_answer, .int t_thrown_w, .ref a_t_way, .int t_went, .int t_fell])), (a_t_now, .inl (y 0, 77, .inl t_now)), (a_t_saved, .inl (y 0, 77, .inl t_saved_w))] H → va_D A [(a_t, .inr (12, [.ref a_t_now, .ref a_t_tried, .ref a_t_kept, .int t_undos, .ref a_t_saved, .int t_isSaved_w, .ref a_t_line, .int t_lined, .ref a_t_text, .int t_length, .int t_at, .int t_order, .ref a_t_told, .int t_fault, .int t_reason, .int t_detail, .int t_index, .int t_answer, .int t_thrown_w, .ref a_t_way, .int t_went, .int t_fell])), (a_t_now, .inl (y 0, 77, .inl t_now)), (a_t_saved, .inl (y 0, 77, .inl t_saved_w))] → va_S A s.heap H locs → ∀ (ls : Array Slot), lv_has ls 2 [(0, .ref a_t), (1, .int x1)] → W p l e (rmq 0 0) s m args below meth c H locs 0 0 Q0 (F0 m 12 ls []) := by
    intro n
    induction n with
    | zero => intro t_isSaved_w t_thrown_w t_saved_w x1 hF; rw [F_X8_save_12] at hF; cases hF
    | succ n ih =>
      intro t_isSaved_w t_thrown_w t_saved_w x1 hF H locs hP hD hS ls hl
      rw [F_X8_save_12] at hF
      refine lv_iload_n hx hb dX8_save_12 rfl (lv_at hl 1 rfl) ?_
      refine lv_bipush (v := 77) hx hb dX8_save_13 (by decide) ?_
      refine lv_icmp_ge (tgt := 36) hx hb dX8_save_15 (by decide) (fun c_15 => ?_) (fun c_15 => ?_)
      · have hF := ift hF c_15
        refine lv_aload_n hx hb dX8_save_36 rfl (lv_at hl 0 rfl) ?_
        refine va_get (D := D) (ci := 12) (v := .ref a_t_now) (C := RX8) (T := TX8) (N := 22) hx hb hts iX8_save_X8 hown hK hP 0 rfl rfl 0 (by decide) (hts (.fieldLink RX8 9 "SkipArchiveModel" "now" "[I") (List.mem_of_getElem? (i := 4) rfl)) (fun _ h9 => h9) rfl dX8_save_37 ?_
        refine lv_iconst (v := 0) hx hb dX8_save_40 (by decide) ?_
        obtain ⟨g_41, hF⟩ := gi_i hF
        refine va_iald hx hb hK hP 1 0 rfl rfl g_41 dX8_save_41 ?_
        obtain ⟨e0_42, e1_42, e2_42, e3_42⟩ := inj4 hF
        rw [← e0_42, ← e1_42, ← e2_42, ← e3_42] at hQ0
        rw [hQ0]
        exact ret_i hx hb hr hlocks hAe hK hP hD hS [0, 1, 2] rfl rfl dX8_save_42
      · have hF := iff_ hF c_15
        refine lv_aload_n hx hb dX8_save_18 rfl (lv_at hl 0 rfl) ?_
        refine va_get (D := D) (ci := 12) (v := .ref a_t_saved) (C := RX8) (T := TX8) (N := 22) hx hb hts iX8_save_X8 hown hK hP 0 rfl rfl 4 (by decide) (hts (.fieldLink RX8 19 "SkipArchiveModel" "saved" "[I") (List.mem_of_getElem? (i := 3) rfl)) (fun _ h9 => h9) rfl dX8_save_19 ?_
        refine lv_iload_n hx hb dX8_save_22 rfl (lv_at hl 1 rfl) ?_
        refine lv_aload_n hx hb dX8_save_23 rfl (lv_at hl 0 rfl) ?_
        refine va_get (D := D) (ci := 12) (v := .ref a_t_now) (C := RX8) (T := TX8) (N := 22) hx hb hts iX8_save_X8 hown hK hP 0 rfl rfl 0 (by decide) (hts (.fieldLink RX8 9 "SkipArchiveModel" "now" "[I") (List.mem_of_getElem? (i := 4) rfl)) (fun _ h9 => h9) rfl dX8_save_24 ?_
        refine lv_iload_n hx hb dX8_save_27 rfl (lv_at hl 1 rfl) ?_
        obtain ⟨g_28, hF⟩ := gi_i hF
        refine va_iald hx hb hK hP 1 0 rfl rfl g_28 dX8_save_28 ?_
        obtain ⟨g_29, hF⟩ := gi_i hF
        refine va_iast hx hb hK hP hD hS 2 0 rfl rfl g_29 dX8_save_29 (fun H locs hP hD hS => ?_)
        have hP : va_P D vwCl [(a_t, .inr (12, [.ref a_t_now, .ref a_t_tried, .ref a_t_kept, .int t_undos, .ref a_t_saved, .int t_isSaved_w, .ref a_t_line, .int t_lined, .ref a_t_text, .int t_length, .int t_at, .int t_order, .ref a_t_told, .int t_fault, .int t_reason, .int t_detail, .int t_index, .int t_answer, .int t_thrown_w, .ref a_t_way, .int t_went, .int t_fell])), (a_t_now, .inl (y 0, 77, .inl t_now)), (a_t_saved, .inl (y 0, 77, .inl (upd t_saved_w x1.toNatClampNeg (t_now x1.toNatClampNeg))))] H := hP
        have hD : va_D A [(a_t, .inr (12, [.ref a_t_now, .ref a_t_tried, .ref a_t_kept, .int t_undos, .ref a_t_saved, .int t_isSaved_w, .ref a_t_line, .int t_lined, .ref a_t_text, .int t_length, .int t_at, .int t_order, .ref a_t_told, .int t_fault, .int t_reason, .int t_detail, .int t_index, .int t_answer, .int t_thrown_w, .ref a_t_way, .int t_went, .int t_fell])), (a_t_now, .inl (y 0, 77, .inl t_now)), (a_t_saved, .inl (y 0, 77, .inl (upd t_saved_w x1.toNatClampNeg (t_now x1.toNatClampNeg))))] := hD
        refine lv_iinc (v := x1 + (1 : Int32)) (lv' := [(1, .int (x1 + (1 : Int32))), (0, .ref a_t)]) hx hb dX8_save_30 hl (k := 1) rfl rfl (by decide) rfl (fun ls hl => ?_)
        refine lv_goto (tgt := 12) hx hb dX8_save_33 (by decide) ?_
        exact ih t_isSaved_w t_thrown_w (upd t_saved_w x1.toNatClampNeg (t_now x1.toNatClampNeg)) (x1 + (1 : Int32)) hF _ _ hP hD hS ls (lv_sub hl [1, 0] rfl)
  refine W_entry hav (Nat.le_of_ble_eq_true rfl) (fun ls hl => ?_)
  have hl : lv_has ls 2 [(0, .ref a_t)] := hl
  refine lv_aload_n hx hb dX8_save_0 rfl (lv_at hl 0 rfl) ?_
  refine lv_iconst (v := 0) hx hb dX8_save_1 (by decide) ?_
  refine va_put (D := D) (ci := 12) (v := .int (0 : Int32)) (ty := .int) (C := RX8) (T := TX8) (N := 22) hx hb hts iX8_save_X8 tyX8 tyX8_ok nmX8 hown hK hP hD hS 0 rfl rfl 18 (by decide) (hts (.fieldLink RX8 39 "SkipArchiveModel" "thrown" "I") (List.mem_of_getElem? (i := 1) rfl)) (fun _ h9 => h9) rfl (by decide +kernel) rfl rfl (Nat.le_of_ble_eq_true rfl) dX8_save_2 (fun H locs hP hD hS => ?_)
  have hP : va_P D vwCl [(a_t, .inr (12, [.ref a_t_now, .ref a_t_tried, .ref a_t_kept, .int t_undos, .ref a_t_saved, .int t_isSaved, .ref a_t_line, .int t_lined, .ref a_t_text, .int t_length, .int t_at, .int t_order, .ref a_t_told, .int t_fault, .int t_reason, .int t_detail, .int t_index, .int t_answer, .int (0 : Int32), .ref a_t_way, .int t_went, .int t_fell])), (a_t_now, .inl (y 0, 77, .inl t_now)), (a_t_saved, .inl (y 0, 77, .inl t_saved))] H := hP
  have hD : va_D A [(a_t, .inr (12, [.ref a_t_now, .ref a_t_tried, .ref a_t_kept, .int t_undos, .ref a_t_saved, .int t_isSaved, .ref a_t_line, .int t_lined, .ref a_t_text, .int t_length, .int t_at, .int t_order, .ref a_t_told, .int t_fault, .int t_reason, .int t_detail, .int t_index, .int t_answer, .int (0 : Int32), .ref a_t_way, .int t_went, .int t_fell])), (a_t_now, .inl (y 0, 77, .inl t_now)), (a_t_saved, .inl (y 0, 77, .inl t_saved))] := hD
  refine lv_aload_n hx hb dX8_save_5 rfl (lv_at hl 0 rfl) ?_
  refine lv_iconst (v := 1) hx hb dX8_save_6 (by decide) ?_
  refine va_put (D := D) (ci := 12) (v := .int (1 : Int32)) (ty := .boolean) (C := RX8) (T := TX8) (N := 22) hx hb hts iX8_save_X8 tyX8 tyX8_ok nmX8 hown hK hP hD hS 0 rfl rfl 5 (by decide) (hts (.fieldLink RX8 213 "SkipArchiveModel" "isSaved" "Z") (List.mem_of_getElem? (i := 2) rfl)) (fun _ h9 => h9) rfl (by decide +kernel) (by decide +kernel) (by decide +kernel) (Nat.le_of_ble_eq_true rfl) dX8_save_7 (fun H locs hP hD hS => ?_)
  have hP : va_P D vwCl [(a_t, .inr (12, [.ref a_t_now, .ref a_t_tried, .ref a_t_kept, .int t_undos, .ref a_t_saved, .int (1 : Int32), .ref a_t_line, .int t_lined, .ref a_t_text, .int t_length, .int t_at, .int t_order, .ref a_t_told, .int t_fault, .int t_reason, .int t_detail, .int t_index, .int t_answer, .int (0 : Int32), .ref a_t_way, .int t_went, .int t_fell])), (a_t_now, .inl (y 0, 77, .inl t_now)), (a_t_saved, .inl (y 0, 77, .inl t_saved))] H := hP
  have hD : va_D A [(a_t, .inr (12, [.ref a_t_now, .ref a_t_tried, .ref a_t_kept, .int t_undos, .ref a_t_saved, .int (1 : Int32), .ref a_t_line, .int t_lined, .ref a_t_text, .int t_length, .int t_at, .int t_order, .ref a_t_told, .int t_fault, .int t_reason, .int t_detail, .int t_index, .int t_answer, .int (0 : Int32), .ref a_t_way, .int t_went, .int t_fell])), (a_t_now, .inl (y 0, 77, .inl t_now)), (a_t_saved, .inl (y 0, 77, .inl t_saved))] := hD
  refine lv_iconst (v := 0) hx hb dX8_save_10 (by decide) ?_
  refine lv_istore_n (lv' := [(1, .int (0 : Int32)), (0, .ref a_t)]) hx hb dX8_save_11 rfl hl (by decide) rfl (fun ls hl => ?_)
  exact k_12 fl (1 : Int32) (0 : Int32) t_saved (0 : Int32) hF _ _ hP hD hS ls (lv_sub hl [1, 0] rfl)
def F_X8_restore_20 (fl : Nat) (t_isSaved : Int32) (t_saved : Nat → Int32) : Nat → Int32 → Int32 → (Nat → Int32) → Int32 → Option (Int32 × Int32 × Int32 × (Nat → Int32))
  | 0, _, _, _, _ => none
  | n + 1, t_undos_w, t_thrown_w, t_now_w, x1 => if (77 : Int32) ≤ x1 then (gi (0 : Int32) 77 (some (t_now_w (0 : Int32).toNatClampNeg, (0 : Int32), t_thrown_w, t_now_w))) else (gi x1 77 (gi x1 77 (F_X8_restore_20 fl t_isSaved t_saved n t_undos_w t_thrown_w (upd t_now_w x1.toNatClampNeg (t_saved x1.toNatClampNeg)) (x1 + (1 : Int32)))))
def F_X8_restore (fl : Nat) (t_undos : Int32) (t_isSaved : Int32) (t_thrown : Int32) (t_now : Nat → Int32) (t_saved : Nat → Int32) : Option (Int32 × Int32 × Int32 × (Nat → Int32)) := if t_isSaved = 0 then (bn2 (F_X8_raises fl (0 : Int32) (1 : Int32)) fun r_14 t_thrown_14 => some (r_14, t_undos, t_thrown_14, t_now)) else (F_X8_restore_20 fl t_isSaved t_saved fl t_undos (0 : Int32) t_now (0 : Int32))
theorem iX8_restore_X8 : ∀ w ∈ u_ws RX8 TX8 22, w ∈ wsX8_restore := fun w h => List.mem_cons_of_mem _ (List.mem_append_left _ (List.mem_append_right _ h))
set_option maxHeartbeats 4000000 in
set_option maxRecDepth 100000 in
theorem c_X8_restore (l : Launch) (D : va_G) (y : Nat → ClassId) (fl : Nat) (sz : Nat) (a_t : Nat) (a_t_now : Nat) (a_t_tried : Nat) (a_t_kept : Nat) (a_t_saved : Nat) (a_t_line : Nat) (a_t_text : Nat) (a_t_told : Nat) (a_t_way : Nat) (t_undos : Int32) (t_isSaved : Int32) (t_lined : Int32) (t_length : Int32) (t_at : Int32) (t_order : Int32) (t_fault : Int32) (t_reason : Int32) (t_detail : Int32) (t_index : Int32) (t_answer : Int32) (t_thrown : Int32) (t_went : Int32) (t_fell : Int32) (t_now : Nat → Int32) (t_saved : Nat → Int32) (r : Int32) (t_undos' : Int32) (t_thrown' : Int32) (t_now' : Nat → Int32) (hF : F_X8_restore fl t_undos t_isSaved t_thrown t_now t_saved = some (r, t_undos', t_thrown', t_now')) : Met l yX8_restore wsX8_restore (rmq 1 21) (wrP D y [(a_t, .inr (12, [.ref a_t_now, .ref a_t_tried, .ref a_t_kept, .int t_undos, .ref a_t_saved, .int t_isSaved, .ref a_t_line, .int t_lined, .ref a_t_text, .int t_length, .int t_at, .int t_order, .ref a_t_told, .int t_fault, .int t_reason, .int t_detail, .int t_index, .int t_answer, .int t_thrown, .ref a_t_way, .int t_went, .int t_fell])), (a_t_now, .inl (y 0, 77, .inl t_now)), (a_t_saved, .inl (y 0, 77, .inl t_saved))] sz [.ref a_t]) (wQi D y r [(a_t, .inr (12, [.ref a_t_now, .ref a_t_tried, .ref a_t_kept, .int t_undos', .ref a_t_saved, .int t_isSaved, .ref a_t_line, .int t_lined, .ref a_t_text, .int t_length, .int t_at, .int t_order, .ref a_t_told, .int t_fault, .int t_reason, .int t_detail, .int t_index, .int t_answer, .int t_thrown', .ref a_t_way, .int t_went, .int t_fell])), (a_t_now, .inl (y 0, 77, .inl t_now')), (a_t_saved, .inl (y 0, 77, .inl t_saved))] [(a_t, .inr (12, [.ref a_t_now, .ref a_t_tried, .ref a_t_kept, .int t_undos, .ref a_t_saved, .int t_isSaved, .ref a_t_line, .int t_lined, .ref a_t_text, .int t_length, .int t_at, .int t_order, .ref a_t_told, .int t_fault, .int t_reason, .int t_detail, .int t_index, .int t_answer, .int t_thrown, .ref a_t_way, .int t_went, .int t_fell])), (a_t_now, .inl (y 0, 77, .inl t_now)), (a_t_saved, .inl (y 0, 77, .inl t_saved))] sz) 0 0 (va_A [(a_t, .inr (12, [.ref a_t_now, .ref a_t_tried, .ref a_t_kept, .int t_undos, .ref a_t_saved, .int t_isSaved, .ref a_t_line, .int t_lined, .ref a_t_text, .int t_length, .int t_at, .int t_order, .ref a_t_told, .int t_fault, .int t_reason, .int t_detail, .int t_index, .int t_answer, .int t_thrown, .ref a_t_way, .int t_went, .int t_fell])), (a_t_now, .inl (y 0, 77, .inl t_now)), (a_t_saved, .inl (y 0, 77, .inl t_saved))] sz) := by
  refine Met.ofW (cc := cX8_restore) (maxL := 2) (ret := (some .int)) (by decide) rfl ?_
  intro p e s m args below meth c s₁ B hml hv
  obtain ⟨hav, hsz, hP, hK, hD0⟩ := hv
  have hx := B.exec
  have hb := B.bytes
  have hr := B.returns
  have hts := atoms_spec (ws := wsX8_restore) B.pre
  have hown : s.vm.findClass RX8 = some m.cls := findClass_of_methodNamed B.named
  have hlocks := B.notSynchronized
  subst hsz
  have hD := hD0.self (sz := s.heap.size)
  obtain ⟨A, hAe⟩ : ∃ A : Nat → Prop, va_A [(a_t, .inr (12, [.ref a_t_now, .ref a_t_tried, .ref a_t_kept, .int t_undos, .ref a_t_saved, .int t_isSaved, .ref a_t_line, .int t_lined, .ref a_t_text, .int t_length, .int t_at, .int t_order, .ref a_t_told, .int t_fault, .int t_reason, .int t_detail, .int t_index, .int t_answer, .int t_thrown, .ref a_t_way, .int t_went, .int t_fell])), (a_t_now, .inl (y 0, 77, .inl t_now)), (a_t_saved, .inl (y 0, 77, .inl t_saved))] s.heap.size = A := ⟨_, rfl⟩
  rw [hAe] at hD
  have hA : ∀ q, s.heap.size ≤ q → A q := fun q h => by rw [← hAe]; exact Or.inr h
  have hS : va_S A s.heap s.heap [] := va_S.rf
  refine W_q (R1 := (rmq 1 21)) rfl (fun Q0 hQ0 => ?_)
  unfold F_X8_restore at hF
  have k_20 : ∀ (n : Nat) (t_undos_w : Int32) (t_thrown_w : Int32) (t_now_w : Nat → Int32) (x1 : Int32), F_X8_restore_20 fl t_isSaved t_saved n t_undos_w t_thrown_w t_now_w x1 = some (r, t_undos', t_thrown', t_now') → ∀ (H : Heap) (locs : List Loc), va_P D vwCl [(a_t, .inr (12, [.ref a_t_now, .ref a_t_tried, .ref a_t_kept, .int t_undos_w, .ref a_t_saved, .int t_isSaved, .ref a_t_line, .int t_lined, .ref a_t_text, .int t_length, .int t_at, .int t_order, .ref a_t_told, .int t_fault, .int t_reason, .int t_detail, .int t_index, .int t_answer, .int t_thrown_w, .ref a_t_way, .int t_went, .int t_fell])), (a_t_now, .inl (y 0, 77, .inl t_now_w)), (a_t_saved, .inl (y 0, 77, .inl t_saved))] H → va_D A [(a_t, .inr (12, [.ref a_t_now, .ref a_t_tried, .ref a_t_kept, .int t_undos_w, .ref a_t_saved, .int t_isSaved, .ref a_t_line, .int t_lined, .ref a_t_text, .int t_length, .int t_at, .int t_order, .ref a_t_told, .int t_fault, .int t_reason, .int t_detail, .int t_index, .int t_answer, .int t_thrown_w, .ref a_t_way, .int t_went, .int t_fell])), (a_t_now, .inl (y 0, 77, .inl t_now_w)), (a_t_saved, .inl (y 0, 77, .inl t_saved))] → va_S A s.heap H locs → ∀ (ls : Array Slot), lv_has ls 2 [(0, .ref a_t), (1, .int x1)] → W p l e (rmq 1 21) s m args below meth c H locs 0 0 Q0 (F0 m 20 ls []) := by
    intro n
    induction n with
    | zero => intro t_undos_w t_thrown_w t_now_w x1 hF; rw [F_X8_restore_20] at hF; cases hF
    | succ n ih =>
      intro t_undos_w t_thrown_w t_now_w x1 hF H locs hP hD hS ls hl
      rw [F_X8_restore_20] at hF
      refine lv_iload_n hx hb dX8_restore_20 rfl (lv_at hl 1 rfl) ?_
      refine lv_bipush (v := 77) hx hb dX8_restore_21 (by decide) ?_
      refine lv_icmp_ge (tgt := 44) hx hb dX8_restore_23 (by decide) (fun c_23 => ?_) (fun c_23 => ?_)
      · have hF := ift hF c_23
        refine lv_aload_n hx hb dX8_restore_44 rfl (lv_at hl 0 rfl) ?_
        refine lv_iconst (v := 0) hx hb dX8_restore_45 (by decide) ?_
        refine va_put (D := D) (ci := 12) (v := .int (0 : Int32)) (ty := .int) (C := RX8) (T := TX8) (N := 22) hx hb hts iX8_restore_X8 tyX8 tyX8_ok nmX8 hown hK hP hD hS 0 rfl rfl 3 (by decide) (hts (.fieldLink RX8 42 "SkipArchiveModel" "undos" "I") (List.mem_of_getElem? (i := 5) rfl)) (fun _ h9 => h9) rfl (by decide +kernel) rfl rfl (Nat.le_of_ble_eq_true rfl) dX8_restore_46 (fun H locs hP hD hS => ?_)
        have hP : va_P D vwCl [(a_t, .inr (12, [.ref a_t_now, .ref a_t_tried, .ref a_t_kept, .int (0 : Int32), .ref a_t_saved, .int t_isSaved, .ref a_t_line, .int t_lined, .ref a_t_text, .int t_length, .int t_at, .int t_order, .ref a_t_told, .int t_fault, .int t_reason, .int t_detail, .int t_index, .int t_answer, .int t_thrown_w, .ref a_t_way, .int t_went, .int t_fell])), (a_t_now, .inl (y 0, 77, .inl t_now_w)), (a_t_saved, .inl (y 0, 77, .inl t_saved))] H := hP
        have hD : va_D A [(a_t, .inr (12, [.ref a_t_now, .ref a_t_tried, .ref a_t_kept, .int (0 : Int32), .ref a_t_saved, .int t_isSaved, .ref a_t_line, .int t_lined, .ref a_t_text, .int t_length, .int t_at, .int t_order, .ref a_t_told, .int t_fault, .int t_reason, .int t_detail, .int t_index, .int t_answer, .int t_thrown_w, .ref a_t_way, .int t_went, .int t_fell])), (a_t_now, .inl (y 0, 77, .inl t_now_w)), (a_t_saved, .inl (y 0, 77, .inl t_saved))] := hD
        refine lv_aload_n hx hb dX8_restore_49 rfl (lv_at hl 0 rfl) ?_
        refine va_get (D := D) (ci := 12) (v := .ref a_t_now) (C := RX8) (T := TX8) (N := 22) hx hb hts iX8_restore_X8 hown hK hP 0 rfl rfl 0 (by decide) (hts (.fieldLink RX8 9 "SkipArchiveModel" "now" "[I") (List.mem_of_getElem? (i := 3) rfl)) (fun _ h9 => h9) rfl dX8_restore_50 ?_
        refine lv_iconst (v := 0) hx hb dX8_restore_53 (by decide) ?_
        obtain ⟨g_54, hF⟩ := gi_i hF
        refine va_iald hx hb hK hP 1 0 rfl rfl g_54 dX8_restore_54 ?_
        obtain ⟨e0_55, e1_55, e2_55, e3_55⟩ := inj4 hF
        rw [← e0_55, ← e1_55, ← e2_55, ← e3_55] at hQ0
        rw [hQ0]
        exact ret_i hx hb hr hlocks hAe hK hP hD hS [0, 1, 2] rfl rfl dX8_restore_55
      · have hF := iff_ hF c_23
        refine lv_aload_n hx hb dX8_restore_26 rfl (lv_at hl 0 rfl) ?_
        refine va_get (D := D) (ci := 12) (v := .ref a_t_now) (C := RX8) (T := TX8) (N := 22) hx hb hts iX8_restore_X8 hown hK hP 0 rfl rfl 0 (by decide) (hts (.fieldLink RX8 9 "SkipArchiveModel" "now" "[I") (List.mem_of_getElem? (i := 3) rfl)) (fun _ h9 => h9) rfl dX8_restore_27 ?_
        refine lv_iload_n hx hb dX8_restore_30 rfl (lv_at hl 1 rfl) ?_
        refine lv_aload_n hx hb dX8_restore_31 rfl (lv_at hl 0 rfl) ?_
        refine va_get (D := D) (ci := 12) (v := .ref a_t_saved) (C := RX8) (T := TX8) (N := 22) hx hb hts iX8_restore_X8 hown hK hP 0 rfl rfl 4 (by decide) (hts (.fieldLink RX8 19 "SkipArchiveModel" "saved" "[I") (List.mem_of_getElem? (i := 4) rfl)) (fun _ h9 => h9) rfl dX8_restore_32 ?_
        refine lv_iload_n hx hb dX8_restore_35 rfl (lv_at hl 1 rfl) ?_
        obtain ⟨g_36, hF⟩ := gi_i hF
        refine va_iald hx hb hK hP 2 0 rfl rfl g_36 dX8_restore_36 ?_
        obtain ⟨g_37, hF⟩ := gi_i hF
        refine va_iast hx hb hK hP hD hS 1 0 rfl rfl g_37 dX8_restore_37 (fun H locs hP hD hS => ?_)
        have hP : va_P D vwCl [(a_t, .inr (12, [.ref a_t_now, .ref a_t_tried, .ref a_t_kept, .int t_undos_w, .ref a_t_saved, .int t_isSaved, .ref a_t_line, .int t_lined, .ref a_t_text, .int t_length, .int t_at, .int t_order, .ref a_t_told, .int t_fault, .int t_reason, .int t_detail, .int t_index, .int t_answer, .int t_thrown_w, .ref a_t_way, .int t_went, .int t_fell])), (a_t_now, .inl (y 0, 77, .inl (upd t_now_w x1.toNatClampNeg (t_saved x1.toNatClampNeg)))), (a_t_saved, .inl (y 0, 77, .inl t_saved))] H := hP
        have hD : va_D A [(a_t, .inr (12, [.ref a_t_now, .ref a_t_tried, .ref a_t_kept, .int t_undos_w, .ref a_t_saved, .int t_isSaved, .ref a_t_line, .int t_lined, .ref a_t_text, .int t_length, .int t_at, .int t_order, .ref a_t_told, .int t_fault, .int t_reason, .int t_detail, .int t_index, .int t_answer, .int t_thrown_w, .ref a_t_way, .int t_went, .int t_fell])), (a_t_now, .inl (y 0, 77, .inl (upd t_now_w x1.toNatClampNeg (t_saved x1.toNatClampNeg)))), (a_t_saved, .inl (y 0, 77, .inl t_saved))] := hD
        refine lv_iinc (v := x1 + (1 : Int32)) (lv' := [(1, .int (x1 + (1 : Int32))), (0, .ref a_t)]) hx hb dX8_restore_38 hl (k := 1) rfl rfl (by decide) rfl (fun ls hl => ?_)
        refine lv_goto (tgt := 20) hx hb dX8_restore_41 (by decide) ?_
        exact ih t_undos_w t_thrown_w (upd t_now_w x1.toNatClampNeg (t_saved x1.toNatClampNeg)) (x1 + (1 : Int32)) hF _ _ hP hD hS ls (lv_sub hl [1, 0] rfl)
  refine W_entry hav (Nat.le_of_ble_eq_true rfl) (fun ls hl => ?_)
  have hl : lv_has ls 2 [(0, .ref a_t)] := hl
  refine lv_aload_n hx hb dX8_restore_0 rfl (lv_at hl 0 rfl) ?_
  refine lv_iconst (v := 0) hx hb dX8_restore_1 (by decide) ?_
  refine va_put (D := D) (ci := 12) (v := .int (0 : Int32)) (ty := .int) (C := RX8) (T := TX8) (N := 22) hx hb hts iX8_restore_X8 tyX8 tyX8_ok nmX8 hown hK hP hD hS 0 rfl rfl 18 (by decide) (hts (.fieldLink RX8 39 "SkipArchiveModel" "thrown" "I") (List.mem_of_getElem? (i := 1) rfl)) (fun _ h9 => h9) rfl (by decide +kernel) rfl rfl (Nat.le_of_ble_eq_true rfl) dX8_restore_2 (fun H locs hP hD hS => ?_)
  have hP : va_P D vwCl [(a_t, .inr (12, [.ref a_t_now, .ref a_t_tried, .ref a_t_kept, .int t_undos, .ref a_t_saved, .int t_isSaved, .ref a_t_line, .int t_lined, .ref a_t_text, .int t_length, .int t_at, .int t_order, .ref a_t_told, .int t_fault, .int t_reason, .int t_detail, .int t_index, .int t_answer, .int (0 : Int32), .ref a_t_way, .int t_went, .int t_fell])), (a_t_now, .inl (y 0, 77, .inl t_now)), (a_t_saved, .inl (y 0, 77, .inl t_saved))] H := hP
  have hD : va_D A [(a_t, .inr (12, [.ref a_t_now, .ref a_t_tried, .ref a_t_kept, .int t_undos, .ref a_t_saved, .int t_isSaved, .ref a_t_line, .int t_lined, .ref a_t_text, .int t_length, .int t_at, .int t_order, .ref a_t_told, .int t_fault, .int t_reason, .int t_detail, .int t_index, .int t_answer, .int (0 : Int32), .ref a_t_way, .int t_went, .int t_fell])), (a_t_now, .inl (y 0, 77, .inl t_now)), (a_t_saved, .inl (y 0, 77, .inl t_saved))] := hD
  refine lv_aload_n hx hb dX8_restore_5 rfl (lv_at hl 0 rfl) ?_
  refine va_get (D := D) (ci := 12) (v := .int t_isSaved) (C := RX8) (T := TX8) (N := 22) hx hb hts iX8_restore_X8 hown hK hP 0 rfl rfl 5 (by decide) (hts (.fieldLink RX8 213 "SkipArchiveModel" "isSaved" "Z") (List.mem_of_getElem? (i := 2) rfl)) (fun _ h9 => h9) rfl dX8_restore_6 ?_
  refine lv_if_ne (tgt := 18) hx hb dX8_restore_9 (by decide) (fun c_9 => ?_) (fun c_9 => ?_)
  · have hF := iff_ hF c_9
    refine lv_iconst (v := 0) hx hb dX8_restore_18 (by decide) ?_
    refine lv_istore_n (lv' := [(1, .int (0 : Int32)), (0, .ref a_t)]) hx hb dX8_restore_19 rfl hl (by decide) rfl (fun ls hl => ?_)
    exact k_20 fl t_undos (0 : Int32) t_now (0 : Int32) hF _ _ hP hD hS ls (lv_sub hl [1, 0] rfl)
  · have hF := ift hF c_9
    refine lv_aload_n hx hb dX8_restore_12 rfl (lv_at hl 0 rfl) ?_
    refine lv_iconst (v := 1) hx hb dX8_restore_13 (by decide) ?_
    obtain ⟨r_14, t_thrown_14, hq_14, hF⟩ := bn2_i hF
    refine cm_Vi (As := [.int (1 : Int32)]) (rest := []) (wr := [(a_t_now, .inl (y 0, 77, .inl t_now)), (a_t_saved, .inl (y 0, 77, .inl t_saved))]) ⟨hx, hb, hml, hown, hts⟩ (c_X8_raises l D y fl H.size a_t a_t_now a_t_tried a_t_kept a_t_saved a_t_line a_t_text a_t_told a_t_way t_undos t_isSaved t_lined t_length t_at t_order t_fault t_reason t_detail t_index t_answer (0 : Int32) t_went t_fell (1 : Int32) r_14 t_thrown_14 hq_14) (cwV 1 hts gX8_restore_X8_raises rfl rfl rfl (by decide +kernel) ⟨Nat.le_of_ble_eq_true rfl, Nat.le_of_ble_eq_true rfl⟩) hK hP hD hS hA [0] [1, 2] rfl rfl rfl rfl (by decide) rfl rfl rfl hl.1 rfl (Nat.le_of_ble_eq_true rfl) dX8_restore_14 ⟨Nat.le_of_ble_eq_true rfl, Nat.le_of_ble_eq_true rfl⟩ (fun H locs hP hD hS => ?_)
    have hP : va_P D vwCl [(a_t_now, .inl (y 0, 77, .inl t_now)), (a_t_saved, .inl (y 0, 77, .inl t_saved)), (a_t, .inr (12, [.ref a_t_now, .ref a_t_tried, .ref a_t_kept, .int t_undos, .ref a_t_saved, .int t_isSaved, .ref a_t_line, .int t_lined, .ref a_t_text, .int t_length, .int t_at, .int t_order, .ref a_t_told, .int t_fault, .int t_reason, .int t_detail, .int t_index, .int t_answer, .int t_thrown_14, .ref a_t_way, .int t_went, .int t_fell]))] H := hP
    have hD : va_D A [(a_t_now, .inl (y 0, 77, .inl t_now)), (a_t_saved, .inl (y 0, 77, .inl t_saved)), (a_t, .inr (12, [.ref a_t_now, .ref a_t_tried, .ref a_t_kept, .int t_undos, .ref a_t_saved, .int t_isSaved, .ref a_t_line, .int t_lined, .ref a_t_text, .int t_length, .int t_at, .int t_order, .ref a_t_told, .int t_fault, .int t_reason, .int t_detail, .int t_index, .int t_answer, .int t_thrown_14, .ref a_t_way, .int t_went, .int t_fell]))] := hD
    obtain ⟨e0_17, e1_17, e2_17, e3_17⟩ := inj4 hF
    rw [← e0_17, ← e1_17, ← e2_17, ← e3_17] at hQ0
    rw [hQ0]
    exact ret_i hx hb hr hlocks hAe hK hP hD hS [2, 0, 1] rfl rfl dX8_restore_17
