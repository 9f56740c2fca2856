def F_X8_begins_2 (fl : Nat) (t_now : Nat → Int32) : Nat → Int32 → Option (Int32)
  | 0, _ => none
  | n + 1, x1 => if x1 ≤ 0 then (some x1) else (bn (F_X8_isOut fl t_now x1) fun r_8 => if r_8 = 0 then (bn (F_X8_sizeOf fl t_now x1) fun r_16 => if r_16 = 0 then (F_X8_begins_2 fl t_now n (x1 + (-1 : Int32))) else (some x1)) else (F_X8_begins_2 fl t_now n (x1 + (-1 : Int32))))
def F_X8_begins (fl : Nat) (t_now : Nat → Int32) : Option (Int32) := F_X8_begins_2 fl t_now fl (4 : Int32)
set_option maxHeartbeats 4000000 in
set_option maxRecDepth 100000 in
theorem c_X8_begins (l : Launch) (D : va_G) (y : Nat → ClassId) (fl : Nat) (a_t : Nat) (a_t_now : Nat) (a_t_tried : Nat) (a_t_kept : Nat) (a_t_saved : Nat) (a_t_line : Nat) (a_t_text : Nat) (a_t_told : Nat) (a_t_way : Nat) (t_undos : Int32) (t_isSaved : Int32) (t_lined : Int32) (t_length : Int32) (t_at : Int32) (t_order : Int32) (t_fault : Int32) (t_reason : Int32) (t_detail : Int32) (t_index : Int32) (t_answer : Int32) (t_thrown : Int32) (t_went : Int32) (t_fell : Int32) (t_now : Nat → Int32) (r : Int32) (hF : F_X8_begins fl t_now = some r) : Met l yX8_begins wsX8_begins (rmq 2 44) (rdP D y [(a_t, .inr (12, [.ref a_t_now, .ref a_t_tried, .ref a_t_kept, .int t_undos, .ref a_t_saved, .int t_isSaved, .ref a_t_line, .int t_lined, .ref a_t_text, .int t_length, .int t_at, .int t_order, .ref a_t_told, .int t_fault, .int t_reason, .int t_detail, .int t_index, .int t_answer, .int t_thrown, .ref a_t_way, .int t_went, .int t_fell])), (a_t_now, .inl (y 0, 77, .inl t_now))] [.ref a_t]) (QcRead r) 0 0 (fun _ => False) := by
  refine Met.ofW (cc := cX8_begins) (maxL := 2) (ret := (some .int)) (by decide) rfl ?_
  intro p e s m args below meth c s₁ B hml hv
  obtain ⟨hav, hP, hK⟩ := hv
  have hx := B.exec
  have hb := B.bytes
  have hr := B.returns
  have hts := atoms_spec (ws := wsX8_begins) B.pre
  have hown : s.vm.findClass RX8 = some m.cls := findClass_of_methodNamed B.named
  have hlocks := B.notSynchronized
  refine W_q (R1 := (rmq 2 44)) rfl (fun Q0 hQ0 => ?_)
  unfold F_X8_begins at hF
  have k_2 : ∀ (n : Nat) (x1 : Int32), F_X8_begins_2 fl t_now n x1 = some r → ∀ (ls : Array Slot), lv_has ls 2 [(0, .ref a_t), (1, .int x1)] → W p l e (rmq 2 44) s m args below meth c s.heap [] 0 0 Q0 (F0 m 2 ls []) := by
    intro n
    induction n with
    | zero => intro x1 hF; rw [F_X8_begins_2] at hF; cases hF
    | succ n ih =>
      intro x1 hF ls hl
      rw [F_X8_begins_2] at hF
      refine lv_iload_n hx hb dX8_begins_2 rfl (lv_at hl 1 rfl) ?_
      refine lv_if_le (tgt := 28) hx hb dX8_begins_3 (by decide) (fun c_3 => ?_) (fun c_3 => ?_)
      · have hF := ift hF c_3
        refine lv_iload_n hx hb dX8_begins_28 rfl (lv_at hl 1 rfl) ?_
        obtain e0_29 := inj1 hF
        rw [← e0_29] at hQ0
        rw [hQ0]
        exact W.iret (v := x1) hx hb hr (fun t ht hW => ⟨rfl, ht⟩) (fun _ h => nomatch h) dX8_begins_29
      · have hF := iff_ hF c_3
        refine lv_aload_n hx hb dX8_begins_6 rfl (lv_at hl 0 rfl) ?_
        refine lv_iload_n hx hb dX8_begins_7 rfl (lv_at hl 1 rfl) ?_
        obtain ⟨r_8, hq_8, hF⟩ := bn_i hF
        refine cr_V (As := [.int x1]) (rest := []) ⟨hx, hb, hml, hown, hts⟩ (c_X8_isOut l D y fl a_t a_t_now a_t_tried a_t_kept a_t_saved a_t_line a_t_text a_t_told a_t_way t_undos t_isSaved t_lined t_length t_at t_order t_fault t_reason t_detail t_index t_answer t_thrown t_went t_fell t_now x1 r_8 hq_8) (cwV 1 hts gX8_begins_X8_isOut rfl rfl rfl (by decide +kernel) ⟨Nat.le_of_ble_eq_true rfl, Nat.le_of_ble_eq_true rfl⟩) hK hP [0, 1] rfl rfl rfl rfl hl.1 rfl (Nat.le_of_ble_eq_true rfl) dX8_begins_8 ⟨Nat.le_of_ble_eq_true rfl, Nat.le_of_ble_eq_true rfl⟩ ?_
        refine lv_if_ne (tgt := 22) hx hb dX8_begins_11 (by decide) (fun c_11 => ?_) (fun c_11 => ?_)
        · have hF := iff_ hF c_11
          refine lv_iinc (v := x1 + (-1 : Int32)) (lv' := [(1, .int (x1 + (-1 : Int32))), (0, .ref a_t)]) hx hb dX8_begins_22 hl (k := 1) rfl rfl (by decide) rfl (fun ls hl => ?_)
          refine lv_goto (tgt := 2) hx hb dX8_begins_25 (by decide) ?_
          exact ih (x1 + (-1 : Int32)) hF ls (lv_sub hl [1, 0] rfl)
        · have hF := ift hF c_11
          refine lv_aload_n hx hb dX8_begins_14 rfl (lv_at hl 0 rfl) ?_
          refine lv_iload_n hx hb dX8_begins_15 rfl (lv_at hl 1 rfl) ?_
          obtain ⟨r_16, hq_16, hF⟩ := bn_i hF
          refine cr_V (As := [.int x1]) (rest := []) ⟨hx, hb, hml, hown, hts⟩ (c_X8_sizeOf l D y fl a_t a_t_now a_t_tried a_t_kept a_t_saved a_t_line a_t_text a_t_told a_t_way t_undos t_isSaved t_lined t_length t_at t_order t_fault t_reason t_detail t_index t_answer t_thrown t_went t_fell t_now x1 r_16 hq_16) (cwV 1 hts gX8_begins_X8_sizeOf rfl rfl rfl (by decide +kernel) ⟨Nat.le_of_ble_eq_true rfl, Nat.le_of_ble_eq_true rfl⟩) hK hP [0, 1] rfl rfl rfl rfl hl.1 rfl (Nat.le_of_ble_eq_true rfl) dX8_begins_16 ⟨Nat.le_of_ble_eq_true rfl, Nat.le_of_ble_eq_true rfl⟩ ?_
          refine lv_if_ne (tgt := 28) hx hb dX8_begins_19 (by decide) (fun c_19 => ?_) (fun c_19 => ?_)
          · have hF := iff_ hF c_19
            refine lv_iload_n hx hb dX8_begins_28 rfl (lv_at hl 1 rfl) ?_
            obtain e0_29 := inj1 hF
            rw [← e0_29] at hQ0
            rw [hQ0]
            exact W.iret (v := x1) hx hb hr (fun t ht hW => ⟨rfl, ht⟩) (fun _ h => nomatch h) dX8_begins_29
          · have hF := ift hF c_19
            refine lv_iinc (v := x1 + (-1 : Int32)) (lv' := [(1, .int (x1 + (-1 : Int32))), (0, .ref a_t)]) hx hb dX8_begins_22 hl (k := 1) rfl rfl (by decide) rfl (fun ls hl => ?_)
            refine lv_goto (tgt := 2) hx hb dX8_begins_25 (by decide) ?_
            exact ih (x1 + (-1 : Int32)) hF ls (lv_sub hl [1, 0] rfl)
  refine W_entry hav (Nat.le_of_ble_eq_true rfl) (fun ls hl => ?_)
  have hl : lv_has ls 2 [(0, .ref a_t)] := hl
  refine lv_iconst (v := 4) hx hb dX8_begins_0 (by decide) ?_
  refine lv_istore_n (lv' := [(1, .int (4 : Int32)), (0, .ref a_t)]) hx hb dX8_begins_1 rfl hl (by decide) rfl (fun ls hl => ?_)
  exact k_2 fl (4 : Int32) hF ls (lv_sub hl [1, 0] rfl)
def F_X8_searches_77 (fl : Nat) (t_now : Nat → Int32) (t_went_w : Int32) (t_fell_w : Int32) (t_way_w : Nat → Int32) (x1 : Int32) (x3 : Int32) (x4 : Int32) : Nat → Int32 → Option (Int32)
  | 0, _ => none
  | n + 1, x2 => if x2 ≤ 0 then (some x2) else (bn (F_X8_isOut fl t_now x2) fun r_83 => if r_83 = 0 then (some x2) else (F_X8_searches_77 fl t_now t_went_w t_fell_w t_way_w x1 x3 x4 n (x2 + (-1 : Int32))))
def F_X8_searches_17 (fl : Nat) (t_now : Nat → Int32) : Nat → Int32 → Int32 → (Nat → Int32) → Int32 → Int32 → Int32 → Option (Int32 × Int32 × Int32 × (Nat → Int32))
  | 0, _, _, _, _, _, _ => none
  | n + 1, t_went_w, t_fell_w, t_way_w, x1, x2, x3 => if x2 < 0 then (some (t_went_w + t_fell_w, t_went_w, t_fell_w, t_way_w)) else (bn (F_X8_next fl t_now x3 x2) fun r_24 => gi (0 : Int32) 77 (if (t_now (0 : Int32).toNatClampNeg) ≤ r_24 then (bn (F_X8_searches_77 fl t_now t_went_w t_fell_w t_way_w x1 x3 r_24 fl (x2 + (-1 : Int32))) fun x2o_77 => if x2o_77 < 0 then (F_X8_searches_17 fl t_now n t_went_w t_fell_w t_way_w x1 x2o_77 x3) else (F_X8_searches_17 fl t_now n t_went_w (t_fell_w + (1 : Int32)) t_way_w x1 x2o_77 x3)) else (bn (F_X8_key fl t_now r_24) fun r_43 => if x1 ≤ r_43 then (bn (F_X8_searches_77 fl t_now t_went_w t_fell_w t_way_w x1 x3 r_24 fl (x2 + (-1 : Int32))) fun x2o_77b => if x2o_77b < 0 then (F_X8_searches_17 fl t_now n t_went_w t_fell_w t_way_w x1 x2o_77b x3) else (F_X8_searches_17 fl t_now n t_went_w (t_fell_w + (1 : Int32)) t_way_w x1 x2o_77b x3)) else (gi t_went_w 24 (F_X8_searches_17 fl t_now n (t_went_w + (1 : Int32)) t_fell_w (upd t_way_w t_went_w.toNatClampNeg r_24) x1 x2 r_24)))))
def F_X8_searches (fl : Nat) (t_went : Int32) (t_fell : Int32) (t_now : Nat → Int32) (t_way : Nat → Int32) (p1 : Int32) : Option (Int32 × Int32 × Int32 × (Nat → Int32)) := bn (F_X8_begins fl t_now) fun r_1 => F_X8_searches_17 fl t_now fl (0 : Int32) (0 : Int32) t_way p1 r_1 (-1 : Int32)
theorem iX8_searches_X8 : ∀ w ∈ u_ws RX8 TX8 22, w ∈ wsX8_searches := fun w h => List.mem_cons_of_mem _ (List.mem_append_left _ (List.mem_append_right _ h))
set_option maxHeartbeats 4000000 in
set_option maxRecDepth 100000 in
theorem c_X8_searches (l : Launch) (D : va_G) (y : Nat → ClassId) (fl : Nat) (sz : Nat) (a_t : Nat) (a_t_now : Nat) (a_t_tried : Nat) (a_t_kept : Nat) (a_t_saved : Nat) (a_t_line : Nat) (a_t_text : Nat) (a_t_told : Nat) (a_t_way : Nat) (t_undos : Int32) (t_isSaved : Int32) (t_lined : Int32) (t_length : Int32) (t_at : Int32) (t_order : Int32) (t_fault : Int32) (t_reason : Int32) (t_detail : Int32) (t_index : Int32) (t_answer : Int32) (t_thrown : Int32) (t_went : Int32) (t_fell : Int32) (t_now : Nat → Int32) (t_way : Nat → Int32) (p1 : Int32) (r : Int32) (t_went' : Int32) (t_fell' : Int32) (t_way' : Nat → Int32) (hF : F_X8_searches fl t_went t_fell t_now t_way p1 = some (r, t_went', t_fell', t_way')) : Met l yX8_searches wsX8_searches (rmq 3 65) (wrP D y [(a_t, .inr (12, [.ref a_t_now, .ref a_t_tried, .ref a_t_kept, .int t_undos, .ref a_t_saved, .int t_isSaved, .ref a_t_line, .int t_lined, .ref a_t_text, .int t_length, .int t_at, .int t_order, .ref a_t_told, .int t_fault, .int t_reason, .int t_detail, .int t_index, .int t_answer, .int t_thrown, .ref a_t_way, .int t_went, .int t_fell])), (a_t_now, .inl (y 0, 77, .inl t_now)), (a_t_way, .inl (y 0, 24, .inl t_way))] sz [.ref a_t, .int p1]) (wQi D y r [(a_t, .inr (12, [.ref a_t_now, .ref a_t_tried, .ref a_t_kept, .int t_undos, .ref a_t_saved, .int t_isSaved, .ref a_t_line, .int t_lined, .ref a_t_text, .int t_length, .int t_at, .int t_order, .ref a_t_told, .int t_fault, .int t_reason, .int t_detail, .int t_index, .int t_answer, .int t_thrown, .ref a_t_way, .int t_went', .int t_fell'])), (a_t_now, .inl (y 0, 77, .inl t_now)), (a_t_way, .inl (y 0, 24, .inl t_way'))] [(a_t, .inr (12, [.ref a_t_now, .ref a_t_tried, .ref a_t_kept, .int t_undos, .ref a_t_saved, .int t_isSaved, .ref a_t_line, .int t_lined, .ref a_t_text, .int t_length, .int t_at, .int t_order, .ref a_t_told, .int t_fault, .int t_reason, .int t_detail, .int t_index, .int t_answer, .int t_thrown, .ref a_t_way, .int t_went, .int t_fell])), (a_t_now, .inl (y 0, 77, .inl t_now)), (a_t_way, .inl (y 0, 24, .inl t_way))] sz) 0 0 (va_A [(a_t, .inr (12, [.ref a_t_now, .ref a_t_tried, .ref a_t_kept, .int t_undos, .ref a_t_saved, .int t_isSaved, .ref a_t_line, .int t_lined, .ref a_t_text, .int t_length, .int t_at, .int t_order, .ref a_t_told, .int t_fault, .int t_reason, .int t_detail, .int t_index, .int t_answer, .int t_thrown, .ref a_t_way, .int t_went, .int t_fell])), (a_t_now, .inl (y 0, 77, .inl t_now)), (a_t_way, .inl (y 0, 24, .inl t_way))] sz) := by
  refine Met.ofW (cc := cX8_searches) (maxL := 5) (ret := (some .int)) (by decide) rfl ?_
  intro p e s m args below meth c s₁ B hml hv
  obtain ⟨hav, hsz, hP, hK, hD0⟩ := hv
  have hx := B.exec
  have hb := B.bytes
  have hr := B.returns
  have hts := atoms_spec (ws := wsX8_searches) B.pre
  have hown : s.vm.findClass RX8 = some m.cls := findClass_of_methodNamed B.named
  have hlocks := B.notSynchronized
  subst hsz
  have hD := hD0.self (sz := s.heap.size)
  obtain ⟨A, hAe⟩ : ∃ A : Nat → Prop, va_A [(a_t, .inr (12, [.ref a_t_now, .ref a_t_tried, .ref a_t_kept, .int t_undos, .ref a_t_saved, .int t_isSaved, .ref a_t_line, .int t_lined, .ref a_t_text, .int t_length, .int t_at, .int t_order, .ref a_t_told, .int t_fault, .int t_reason, .int t_detail, .int t_index, .int t_answer, .int t_thrown, .ref a_t_way, .int t_went, .int t_fell])), (a_t_now, .inl (y 0, 77, .inl t_now)), (a_t_way, .inl (y 0, 24, .inl t_way))] s.heap.size = A := ⟨_, rfl⟩
  rw [hAe] at hD
  have hA : ∀ q, s.heap.size ≤ q → A q := fun q h => by rw [← hAe]; exact Or.inr h
  have hS : va_S A s.heap s.heap [] := va_S.rf
  refine W_q (R1 := (rmq 3 65)) rfl (fun Q0 hQ0 => ?_)
  unfold F_X8_searches at hF
  have k_77 : ∀ (t_went_w : Int32) (t_fell_w : Int32) (t_way_w : Nat → Int32) (x1 : Int32) (x3 : Int32) (x4 : Int32) (n : Nat) (x2 : Int32) (o2 : Int32), F_X8_searches_77 fl t_now t_went_w t_fell_w t_way_w x1 x3 x4 n x2 = some o2 → ∀ (H : Heap) (locs : List Loc), va_P D vwCl [(a_t, .inr (12, [.ref a_t_now, .ref a_t_tried, .ref a_t_kept, .int t_undos, .ref a_t_saved, .int t_isSaved, .ref a_t_line, .int t_lined, .ref a_t_text, .int t_length, .int t_at, .int t_order, .ref a_t_told, .int t_fault, .int t_reason, .int t_detail, .int t_index, .int t_answer, .int t_thrown, .ref a_t_way, .int t_went_w, .int t_fell_w])), (a_t_now, .inl (y 0, 77, .inl t_now)), (a_t_way, .inl (y 0, 24, .inl t_way_w))] H → va_D A [(a_t, .inr (12, [.ref a_t_now, .ref a_t_tried, .ref a_t_kept, .int t_undos, .ref a_t_saved, .int t_isSaved, .ref a_t_line, .int t_lined, .ref a_t_text, .int t_length, .int t_at, .int t_order, .ref a_t_told, .int t_fault, .int t_reason, .int t_detail, .int t_index, .int t_answer, .int t_thrown, .ref a_t_way, .int t_went_w, .int t_fell_w])), (a_t_now, .inl (y 0, 77, .inl t_now)), (a_t_way, .inl (y 0, 24, .inl t_way_w))] → va_S A s.heap H locs → ∀ (ls : Array Slot), lv_has ls 5 [(0, .ref a_t), (1, .int x1), (2, .int x2), (3, .int x3), (4, .int x4)] → (∀ ls : Array Slot, lv_has ls 5 [(0, .ref a_t), (1, .int x1), (2, .int o2), (3, .int x3), (4, .int x4)] → W p l e (rmq 3 65) s m args below meth c H locs 0 0 Q0 (F0 m 95 ls [])) → W p l e (rmq 3 65) s m args below meth c H locs 0 0 Q0 (F0 m 77 ls []) := by
    intro t_went_w t_fell_w t_way_w x1 x3 x4 n
    induction n with
    | zero => intro x2 o2 hF; rw [F_X8_searches_77] at hF; cases hF
    | succ n ih =>
      intro x2 o2 hF H locs hP hD hS ls hl kont
      rw [F_X8_searches_77] at hF
      refine lv_iload_n hx hb dX8_searches_77 rfl (lv_at hl 2 rfl) ?_
      refine lv_if_le (tgt := 95) hx hb dX8_searches_78 (by decide) (fun c_78 => ?_) (fun c_78 => ?_)
      · have hF := ift hF c_78
        obtain e0_95 := inj1 hF
        rw [← e0_95] at kont
        exact kont ls (lv_sub hl [0, 1, 2, 3, 4] rfl)
      · have hF := iff_ hF c_78
        refine lv_aload_n hx hb dX8_searches_81 rfl (lv_at hl 0 rfl) ?_
        refine lv_iload_n hx hb dX8_searches_82 rfl (lv_at hl 2 rfl) ?_
        obtain ⟨r_83, hq_83, hF⟩ := bn_i hF
        refine cr_V (As := [.int x2]) (rest := []) ⟨hx, hb, hml, hown, hts⟩ (c_X8_isOut l D y fl a_t a_t_now a_t_tried a_t_kept a_t_saved a_t_line a_t_text a_t_told a_t_way t_undos t_isSaved t_lined t_length t_at t_order t_fault t_reason t_detail t_index t_answer t_thrown t_went_w t_fell_w t_now x2 r_83 hq_83) (cwV 1 hts gX8_searches_X8_isOut rfl rfl rfl (by decide +kernel) ⟨Nat.le_of_ble_eq_true rfl, Nat.le_of_ble_eq_true rfl⟩) hK hP [0, 1] rfl rfl rfl rfl hl.1 rfl (Nat.le_of_ble_eq_true rfl) dX8_searches_83 ⟨Nat.le_of_ble_eq_true rfl, Nat.le_of_ble_eq_true rfl⟩ ?_
        refine lv_if_eq (tgt := 95) hx hb dX8_searches_86 (by decide) (fun c_86 => ?_) (fun c_86 => ?_)
        · have hF := ift hF c_86
          obtain e0_95 := inj1 hF
          rw [← e0_95] at kont
          exact kont ls (lv_sub hl [0, 1, 2, 3, 4] rfl)
        · have hF := iff_ hF c_86
          refine lv_iinc (v := x2 + (-1 : Int32)) (lv' := [(2, .int (x2 + (-1 : Int32))), (0, .ref a_t), (1, .int x1), (3, .int x3), (4, .int x4)]) hx hb dX8_searches_89 hl (k := 2) rfl rfl (by decide) rfl (fun ls hl => ?_)
          refine lv_goto (tgt := 77) hx hb dX8_searches_92 (by decide) ?_
          exact ih (x2 + (-1 : Int32)) _ hF H locs hP hD hS ls (lv_sub hl [1, 2, 0, 3, 4] rfl) kont
  have k_17 : ∀ (n : Nat) (t_went_w : Int32) (t_fell_w : Int32) (t_way_w : Nat → Int32) (x1 : Int32) (x2 : Int32) (x3 : Int32), F_X8_searches_17 fl t_now n t_went_w t_fell_w t_way_w x1 x2 x3 = some (r, t_went', t_fell', t_way') → ∀ (H : Heap) (locs : List Loc), va_P D vwCl [(a_t, .inr (12, [.ref a_t_now, .ref a_t_tried, .ref a_t_kept, .int t_undos, .ref a_t_saved, .int t_isSaved, .ref a_t_line, .int t_lined, .ref a_t_text, .int t_length, .int t_at, .int t_order, .ref a_t_told, .int t_fault, .int t_reason, .int t_detail, .int t_index, .int t_answer, .int t_thrown, .ref a_t_way, .int t_went_w, .int t_fell_w])), (a_t_now, .inl (y 0, 77, .inl t_now)), (a_t_way, .inl (y 0, 24, .inl t_way_w))] H → va_D A [(a_t, .inr (12, [.ref a_t_now, .ref a_t_tried, .ref a_t_kept, .int t_undos, .ref a_t_saved, .int t_isSaved, .ref a_t_line, .int t_lined, .ref a_t_text, .int t_length, .int t_at, .int t_order, .ref a_t_told, .int t_fault, .int t_reason, .int t_detail, .int t_index, .int t_answer, .int t_thrown, .ref a_t_way, .int t_went_w, .int t_fell_w])), (a_t_now, .inl (y 0, 77, .inl t_now)), (a_t_way, .inl (y 0, 24, .inl t_way_w))] → va_S A s.heap H locs → ∀ (ls : Array Slot), lv_has ls 5 [(0, .ref a_t), (1, .int x1), (2, .int x2), (3, .int x3)] → W p l e (rmq 3 65) s m args below meth c H locs 0 0 Q0 (F0 m 17 ls []) := by
    intro n
    induction n with
    | zero => intro t_went_w t_fell_w t_way_w x1 x2 x3 hF; rw [F_X8_searches_17] at hF; cases hF
    | succ n ih =>
      intro t_went_w t_fell_w t_way_w x1 x2 x3 hF H locs hP hD hS ls hl
      rw [F_X8_searches_17] at hF
      refine lv_iload_n hx hb dX8_searches_17 rfl (lv_at hl 2 rfl) ?_
      refine lv_if_lt (tgt := 112) hx hb dX8_searches_18 (by decide) (fun c_18 => ?_) (fun c_18 => ?_)
      · have hF := ift hF c_18
        refine lv_aload_n hx hb dX8_searches_112 rfl (lv_at hl 0 rfl) ?_
        refine va_get (D := D) (ci := 12) (v := .int t_went_w) (C := RX8) (T := TX8) (N := 22) hx hb hts iX8_searches_X8 hown hK hP 0 rfl rfl 20 (by decide) (hts (.fieldLink RX8 139 "SkipArchiveModel" "went" "I") (List.mem_of_getElem? (i := 1) rfl)) (fun _ h9 => h9) rfl dX8_searches_113 ?_
        refine lv_aload_n hx hb dX8_searches_116 rfl (lv_at hl 0 rfl) ?_
        refine va_get (D := D) (ci := 12) (v := .int t_fell_w) (C := RX8) (T := TX8) (N := 22) hx hb hts iX8_searches_X8 hown hK hP 0 rfl rfl 21 (by decide) (hts (.fieldLink RX8 142 "SkipArchiveModel" "fell" "I") (List.mem_of_getElem? (i := 2) rfl)) (fun _ h9 => h9) rfl dX8_searches_117 ?_
        refine lv_iadd hx hb dX8_searches_120 ?_
        obtain ⟨e0_121, e1_121, e2_121, e3_121⟩ := inj4 hF
        rw [← e0_121, ← e1_121, ← e2_121, ← e3_121] at hQ0
        rw [hQ0]
        exact ret_i hx hb hr hlocks hAe hK hP hD hS [0, 1, 2] rfl rfl dX8_searches_121
      · have hF := iff_ hF c_18
        refine lv_aload_n hx hb dX8_searches_21 rfl (lv_at hl 0 rfl) ?_
        refine lv_iload_n hx hb dX8_searches_22 rfl (lv_at hl 3 rfl) ?_
        refine lv_iload_n hx hb dX8_searches_23 rfl (lv_at hl 2 rfl) ?_
        obtain ⟨r_24, hq_24, hF⟩ := bn_i hF
        refine cr_V (As := [.int x3, .int x2]) (rest := []) ⟨hx, hb, hml, hown, hts⟩ (c_X8_next l D y fl a_t a_t_now a_t_tried a_t_kept a_t_saved a_t_line a_t_text a_t_told a_t_way t_undos t_isSaved t_lined t_length t_at t_order t_fault t_reason t_detail t_index t_answer t_thrown t_went_w t_fell_w t_now x3 x2 r_24 hq_24) (cwV 2 hts gX8_searches_X8_next rfl rfl rfl (by decide +kernel) ⟨Nat.le_of_ble_eq_true rfl, Nat.le_of_ble_eq_true rfl⟩) hK hP [0, 1] rfl rfl rfl rfl hl.1 rfl (Nat.le_of_ble_eq_true rfl) dX8_searches_24 ⟨Nat.le_of_ble_eq_true rfl, Nat.le_of_ble_eq_true rfl⟩ ?_
        refine lv_istore (lv' := [(4, .int r_24), (0, .ref a_t), (1, .int x1), (2, .int x2), (3, .int x3)]) hx hb dX8_searches_27 hl (by decide) rfl (fun ls hl => ?_)
        refine lv_iload hx hb dX8_searches_29 (lv_at hl 0 rfl) ?_
        refine lv_aload_n hx hb dX8_searches_31 rfl (lv_at hl 1 rfl) ?_
        refine va_get (D := D) (ci := 12) (v := .ref a_t_now) (C := RX8) (T := TX8) (N := 22) hx hb hts iX8_searches_X8 hown hK hP 0 rfl rfl 0 (by decide) (hts (.fieldLink RX8 9 "SkipArchiveModel" "now" "[I") (List.mem_of_getElem? (i := 3) rfl)) (fun _ h9 => h9) rfl dX8_searches_32 ?_
        refine lv_iconst (v := 0) hx hb dX8_searches_35 (by decide) ?_
        obtain ⟨g_36, hF⟩ := gi_i hF
        refine va_iald hx hb hK hP 1 0 rfl rfl g_36 dX8_searches_36 ?_
        refine lv_icmp_ge (tgt := 74) hx hb dX8_searches_37 (by decide) (fun c_37 => ?_) (fun c_37 => ?_)
        · have hF := ift hF c_37
          refine lv_iinc (v := x2 + (-1 : Int32)) (lv' := [(2, .int (x2 + (-1 : Int32))), (4, .int r_24), (0, .ref a_t), (1, .int x1), (3, .int x3)]) hx hb dX8_searches_74 hl (k := 3) rfl rfl (by decide) rfl (fun ls hl => ?_)
          obtain ⟨x2o_77, hq_77, hF⟩ := bn_i hF
          refine k_77 t_went_w t_fell_w t_way_w x1 x3 r_24 fl (x2 + (-1 : Int32)) x2o_77 hq_77 _ _ (hP.sub [0, 1, 2] rfl) (hD.sub [0, 1, 2] (by decide) rfl) hS ls (lv_sub hl [2, 3, 0, 4, 1] rfl) (fun ls hl => ?_)
          refine lv_iload_n hx hb dX8_searches_95 rfl (lv_at hl 2 rfl) ?_
          refine lv_if_lt (tgt := 109) hx hb dX8_searches_96 (by decide) (fun c_96 => ?_) (fun c_96 => ?_)
          · have hF := ift hF c_96
            refine lv_goto (tgt := 17) hx hb dX8_searches_109 (by decide) ?_
            exact ih t_went_w t_fell_w t_way_w x1 x2o_77 x3 hF _ _ hP hD hS ls (lv_sub hl [0, 1, 2, 3] rfl)
          · have hF := iff_ hF c_96
            refine lv_aload_n hx hb dX8_searches_99 rfl (lv_at hl 0 rfl) ?_
            refine lv_dup hx hb dX8_searches_100 rfl ?_
            refine va_get (D := D) (ci := 12) (v := .int t_fell_w) (C := RX8) (T := TX8) (N := 22) hx hb hts iX8_searches_X8 hown hK hP 0 rfl rfl 21 (by decide) (hts (.fieldLink RX8 142 "SkipArchiveModel" "fell" "I") (List.mem_of_getElem? (i := 2) rfl)) (fun _ h9 => h9) rfl dX8_searches_101 ?_
            refine lv_iconst (v := 1) hx hb dX8_searches_104 (by decide) ?_
            refine lv_iadd hx hb dX8_searches_105 ?_
            refine va_put (D := D) (ci := 12) (v := .int (t_fell_w + (1 : Int32))) (ty := .int) (C := RX8) (T := TX8) (N := 22) hx hb hts iX8_searches_X8 tyX8 tyX8_ok nmX8 hown hK hP hD hS 0 rfl rfl 21 (by decide) (hts (.fieldLink RX8 142 "SkipArchiveModel" "fell" "I") (List.mem_of_getElem? (i := 2) rfl)) (fun _ h9 => h9) rfl (by decide +kernel) rfl rfl (Nat.le_of_ble_eq_true rfl) dX8_searches_106 (fun H locs hP hD hS => ?_)
            have hP : va_P D vwCl [(a_t, .inr (12, [.ref a_t_now, .ref a_t_tried, .ref a_t_kept, .int t_undos, .ref a_t_saved, .int t_isSaved, .ref a_t_line, .int t_lined, .ref a_t_text, .int t_length, .int t_at, .int t_order, .ref a_t_told, .int t_fault, .int t_reason, .int t_detail, .int t_index, .int t_answer, .int t_thrown, .ref a_t_way, .int t_went_w, .int (t_fell_w + (1 : Int32))])), (a_t_now, .inl (y 0, 77, .inl t_now)), (a_t_way, .inl (y 0, 24, .inl t_way_w))] H := hP
            have hD : va_D A [(a_t, .inr (12, [.ref a_t_now, .ref a_t_tried, .ref a_t_kept, .int t_undos, .ref a_t_saved, .int t_isSaved, .ref a_t_line, .int t_lined, .ref a_t_text, .int t_length, .int t_at, .int t_order, .ref a_t_told, .int t_fault, .int t_reason, .int t_detail, .int t_index, .int t_answer, .int t_thrown, .ref a_t_way, .int t_went_w, .int (t_fell_w + (1 : Int32))])), (a_t_now, .inl (y 0, 77, .inl t_now)), (a_t_way, .inl (y 0, 24, .inl t_way_w))] := hD
            refine lv_goto (tgt := 17) hx hb dX8_searches_109 (by decide) ?_
            exact ih t_went_w (t_fell_w + (1 : Int32)) t_way_w x1 x2o_77 x3 hF _ _ hP hD hS ls (lv_sub hl [0, 1, 2, 3] rfl)
        · have hF := iff_ hF c_37
          refine lv_aload_n hx hb dX8_searches_40 rfl (lv_at hl 1 rfl) ?_
          refine lv_iload hx hb dX8_searches_41 (lv_at hl 0 rfl) ?_
          obtain ⟨r_43, hq_43, hF⟩ := bn_i hF
          refine cr_V (As := [.int r_24]) (rest := []) ⟨hx, hb, hml, hown, hts⟩ (c_X8_key l D y fl a_t a_t_now a_t_tried a_t_kept a_t_saved a_t_line a_t_text a_t_told a_t_way t_undos t_isSaved t_lined t_length t_at t_order t_fault t_reason t_detail t_index t_answer t_thrown t_went_w t_fell_w t_now r_24 r_43 hq_43) (cwV 1 hts gX8_searches_X8_key rfl rfl rfl (by decide +kernel) ⟨Nat.le_of_ble_eq_true rfl, Nat.le_of_ble_eq_true rfl⟩) hK hP [0, 1] rfl rfl rfl rfl hl.1 rfl (Nat.le_of_ble_eq_true rfl) dX8_searches_43 ⟨Nat.le_of_ble_eq_true rfl, Nat.le_of_ble_eq_true rfl⟩ ?_
          refine lv_iload_n hx hb dX8_searches_46 rfl (lv_at hl 2 rfl) ?_
          refine lv_icmp_ge (tgt := 74) hx hb dX8_searches_47 (by decide) (fun c_47 => ?_) (fun c_47 => ?_)
          · have hF := ift hF c_47
            refine lv_iinc (v := x2 + (-1 : Int32)) (lv' := [(2, .int (x2 + (-1 : Int32))), (4, .int r_24), (0, .ref a_t), (1, .int x1), (3, .int x3)]) hx hb dX8_searches_74 hl (k := 3) rfl rfl (by decide) rfl (fun ls hl => ?_)
            obtain ⟨x2o_77b, hq_77b, hF⟩ := bn_i hF
            refine k_77 t_went_w t_fell_w t_way_w x1 x3 r_24 fl (x2 + (-1 : Int32)) x2o_77b hq_77b _ _ (hP.sub [0, 1, 2] rfl) (hD.sub [0, 1, 2] (by decide) rfl) hS ls (lv_sub hl [2, 3, 0, 4, 1] rfl) (fun ls hl => ?_)
            refine lv_iload_n hx hb dX8_searches_95 rfl (lv_at hl 2 rfl) ?_
            refine lv_if_lt (tgt := 109) hx hb dX8_searches_96 (by decide) (fun c_96b => ?_) (fun c_96b => ?_)
            · have hF := ift hF c_96b
              refine lv_goto (tgt := 17) hx hb dX8_searches_109 (by decide) ?_
              exact ih t_went_w t_fell_w t_way_w x1 x2o_77b x3 hF _ _ hP hD hS ls (lv_sub hl [0, 1, 2, 3] rfl)
            · have hF := iff_ hF c_96b
              refine lv_aload_n hx hb dX8_searches_99 rfl (lv_at hl 0 rfl) ?_
              refine lv_dup hx hb dX8_searches_100 rfl ?_
              refine va_get (D := D) (ci := 12) (v := .int t_fell_w) (C := RX8) (T := TX8) (N := 22) hx hb hts iX8_searches_X8 hown hK hP 0 rfl rfl 21 (by decide) (hts (.fieldLink RX8 142 "SkipArchiveModel" "fell" "I") (List.mem_of_getElem? (i := 2) rfl)) (fun _ h9 => h9) rfl dX8_searches_101 ?_
              refine lv_iconst (v := 1) hx hb dX8_searches_104 (by decide) ?_
              refine lv_iadd hx hb dX8_searches_105 ?_
              refine va_put (D := D) (ci := 12) (v := .int (t_fell_w + (1 : Int32))) (ty := .int) (C := RX8) (T := TX8) (N := 22) hx hb hts iX8_searches_X8 tyX8 tyX8_ok nmX8 hown hK hP hD hS 0 rfl rfl 21 (by decide) (hts (.fieldLink RX8 142 "SkipArchiveModel" "fell" "I") (List.mem_of_getElem? (i := 2) rfl)) (fun _ h9 => h9) rfl (by decide +kernel) rfl rfl (Nat.le_of_ble_eq_true rfl) dX8_searches_106 (fun H locs hP hD hS => ?_)
              have hP : va_P D vwCl [(a_t, .inr (12, [.ref a_t_now, .ref a_t_tried, .ref a_t_kept, .int t_undos, .ref a_t_saved, .int t_isSaved, .ref a_t_line, .int t_lined, .ref a_t_text, .int t_length, .int t_at, .int t_order, .ref a_t_told, .int t_fault, .int t_reason, .int t_detail, .int t_index, .int t_answer, .int t_thrown, .ref a_t_way, .int t_went_w, .int (t_fell_w + (1 : Int32))])), (a_t_now, .inl (y 0, 77, .inl t_now)), (a_t_way, .inl (y 0, 24, .inl t_way_w))] H := hP
              have hD : va_D A [(a_t, .inr (12, [.ref a_t_now, .ref a_t_tried, .ref a_t_kept, .int t_undos, .ref a_t_saved, .int t_isSaved, .ref a_t_line, .int t_lined, .ref a_t_text, .int t_length, .int t_at, .int t_order, .ref a_t_told, .int t_fault, .int t_reason, .int t_detail, .int t_index, .int t_answer, .int t_thrown, .ref a_t_way, .int t_went_w, .int (t_fell_w + (1 : Int32))])), (a_t_now, .inl (y 0, 77, .inl t_now)), (a_t_way, .inl (y 0, 24, .inl t_way_w))] := hD
              refine lv_goto (tgt := 17) hx hb dX8_searches_109 (by decide) ?_
              exact ih t_went_w (t_fell_w + (1 : Int32)) t_way_w x1 x2o_77b x3 hF _ _ hP hD hS ls (lv_sub hl [0, 1, 2, 3] rfl)
          · have hF := iff_ hF c_47
            refine lv_iload hx hb dX8_searches_50 (lv_at hl 0 rfl) ?_
            refine lv_istore_n (lv' := [(3, .int r_24), (4, .int r_24), (0, .ref a_t), (1, .int x1), (2, .int x2)]) hx hb dX8_searches_52 rfl hl (by decide) rfl (fun ls hl => ?_)
            refine lv_aload_n hx hb dX8_searches_53 rfl (lv_at hl 2 rfl) ?_
            refine va_get (D := D) (ci := 12) (v := .ref a_t_way) (C := RX8) (T := TX8) (N := 22) hx hb hts iX8_searches_X8 hown hK hP 0 rfl rfl 19 (by decide) (hts (.fieldLink RX8 36 "SkipArchiveModel" "way" "[I") (List.mem_of_getElem? (i := 4) rfl)) (fun _ h9 => h9) rfl dX8_searches_54 ?_
            refine lv_aload_n hx hb dX8_searches_57 rfl (lv_at hl 2 rfl) ?_
            refine lv_dup hx hb dX8_searches_58 rfl ?_
            refine va_get (D := D) (ci := 12) (v := .int t_went_w) (C := RX8) (T := TX8) (N := 22) hx hb hts iX8_searches_X8 hown hK hP 0 rfl rfl 20 (by decide) (hts (.fieldLink RX8 139 "SkipArchiveModel" "went" "I") (List.mem_of_getElem? (i := 1) rfl)) (fun _ h9 => h9) rfl dX8_searches_59 ?_
            refine lv_dup_x1 hx hb dX8_searches_62 rfl rfl ?_
            refine lv_iconst (v := 1) hx hb dX8_searches_63 (by decide) ?_
            refine lv_iadd hx hb dX8_searches_64 ?_
            refine va_put (D := D) (ci := 12) (v := .int (t_went_w + (1 : Int32))) (ty := .int) (C := RX8) (T := TX8) (N := 22) hx hb hts iX8_searches_X8 tyX8 tyX8_ok nmX8 hown hK hP hD hS 0 rfl rfl 20 (by decide) (hts (.fieldLink RX8 139 "SkipArchiveModel" "went" "I") (List.mem_of_getElem? (i := 1) rfl)) (fun _ h9 => h9) rfl (by decide +kernel) rfl rfl (Nat.le_of_ble_eq_true rfl) dX8_searches_65 (fun H locs hP hD hS => ?_)
            have hP : va_P D vwCl [(a_t, .inr (12, [.ref a_t_now, .ref a_t_tried, .ref a_t_kept, .int t_undos, .ref a_t_saved, .int t_isSaved, .ref a_t_line, .int t_lined, .ref a_t_text, .int t_length, .int t_at, .int t_order, .ref a_t_told, .int t_fault, .int t_reason, .int t_detail, .int t_index, .int t_answer, .int t_thrown, .ref a_t_way, .int (t_went_w + (1 : Int32)), .int t_fell_w])), (a_t_now, .inl (y 0, 77, .inl t_now)), (a_t_way, .inl (y 0, 24, .inl t_way_w))] H := hP
            have hD : va_D A [(a_t, .inr (12, [.ref a_t_now, .ref a_t_tried, .ref a_t_kept, .int t_undos, .ref a_t_saved, .int t_isSaved, .ref a_t_line, .int t_lined, .ref a_t_text, .int t_length, .int t_at, .int t_order, .ref a_t_told, .int t_fault, .int t_reason, .int t_detail, .int t_index, .int t_answer, .int t_thrown, .ref a_t_way, .int (t_went_w + (1 : Int32)), .int t_fell_w])), (a_t_now, .inl (y 0, 77, .inl t_now)), (a_t_way, .inl (y 0, 24, .inl t_way_w))] := hD
            refine lv_iload hx hb dX8_searches_68 (lv_at hl 1 rfl) ?_
            obtain ⟨g_70, hF⟩ := gi_i hF
            refine va_iast hx hb hK hP hD hS 2 0 rfl rfl g_70 dX8_searches_70 (fun H locs hP hD hS => ?_)
            have hP : va_P D vwCl [(a_t, .inr (12, [.ref a_t_now, .ref a_t_tried, .ref a_t_kept, .int t_undos, .ref a_t_saved, .int t_isSaved, .ref a_t_line, .int t_lined, .ref a_t_text, .int t_length, .int t_at, .int t_order, .ref a_t_told, .int t_fault, .int t_reason, .int t_detail, .int t_index, .int t_answer, .int t_thrown, .ref a_t_way, .int (t_went_w + (1 : Int32)), .int t_fell_w])), (a_t_now, .inl (y 0, 77, .inl t_now)), (a_t_way, .inl (y 0, 24, .inl (upd t_way_w t_went_w.toNatClampNeg r_24)))] H := hP
            have hD : va_D A [(a_t, .inr (12, [.ref a_t_now, .ref a_t_tried, .ref a_t_kept, .int t_undos, .ref a_t_saved, .int t_isSaved, .ref a_t_line, .int t_lined, .ref a_t_text, .int t_length, .int t_at, .int t_order, .ref a_t_told, .int t_fault, .int t_reason, .int t_detail, .int t_index, .int t_answer, .int t_thrown, .ref a_t_way, .int (t_went_w + (1 : Int32)), .int t_fell_w])), (a_t_now, .inl (y 0, 77, .inl t_now)), (a_t_way, .inl (y 0, 24, .inl (upd t_way_w t_went_w.toNatClampNeg r_24)))] := hD
            refine lv_goto (tgt := 17) hx hb dX8_searches_71 (by decide) ?_
            exact ih (t_went_w + (1 : Int32)) t_fell_w (upd t_way_w t_went_w.toNatClampNeg r_24) x1 x2 r_24 hF _ _ hP hD hS ls (lv_sub hl [2, 3, 4, 0] rfl)
  refine W_entry hav (Nat.le_of_ble_eq_true rfl) (fun ls hl => ?_)
  have hl : lv_has ls 5 [(0, .ref a_t), (1, .int p1)] := hl
  refine lv_aload_n hx hb dX8_searches_0 rfl (lv_at hl 0 rfl) ?_
  obtain ⟨r_1, hq_1, hF⟩ := bn_i hF
  refine cr_V (As := []) (rest := []) ⟨hx, hb, hml, hown, hts⟩ (c_X8_begins l D y fl a_t a_t_now a_t_tried a_t_kept a_t_saved a_t_line a_t_text a_t_told a_t_way t_undos t_isSaved t_lined t_length t_at t_order t_fault t_reason t_detail t_index t_answer t_thrown t_went t_fell t_now r_1 hq_1) (cwV 0 hts gX8_searches_X8_begins rfl rfl rfl (by decide +kernel) ⟨Nat.le_of_ble_eq_true rfl, Nat.le_of_ble_eq_true rfl⟩) hK hP [0, 1] rfl rfl rfl rfl hl.1 rfl (Nat.le_of_ble_eq_true rfl) dX8_searches_1 ⟨Nat.le_of_ble_eq_true rfl, Nat.le_of_ble_eq_true rfl⟩ ?_
  refine lv_istore_n (lv' := [(2, .int r_1), (0, .ref a_t), (1, .int p1)]) hx hb dX8_searches_4 rfl hl (by decide) rfl (fun ls hl => ?_)
  refine lv_iconst (v := -1) hx hb dX8_searches_5 (by decide) ?_
  refine lv_istore_n (lv' := [(3, .int (-1 : Int32)), (2, .int r_1), (0, .ref a_t), (1, .int p1)]) hx hb dX8_searches_6 rfl hl (by decide) rfl (fun ls hl => ?_)
  refine lv_aload_n hx hb dX8_searches_7 rfl (lv_at hl 2 rfl) ?_
  refine lv_iconst (v := 0) hx hb dX8_searches_8 (by decide) ?_
  refine va_put (D := D) (ci := 12) (v := .int (0 : Int32)) (ty := .int) (C := RX8) (T := TX8) (N := 22) hx hb hts iX8_searches_X8 tyX8 tyX8_ok nmX8 hown hK hP hD hS 0 rfl rfl 20 (by decide) (hts (.fieldLink RX8 139 "SkipArchiveModel" "went" "I") (List.mem_of_getElem? (i := 1) rfl)) (fun _ h9 => h9) rfl (by decide +kernel) rfl rfl (Nat.le_of_ble_eq_true rfl) dX8_searches_9 (fun H locs hP hD hS => ?_)
  have hP : va_P D vwCl [(a_t, .inr (12, [.ref a_t_now, .ref a_t_tried, .ref a_t_kept, .int t_undos, .ref a_t_saved, .int t_isSaved, .ref a_t_line, .int t_lined, .ref a_t_text, .int t_length, .int t_at, .int t_order, .ref a_t_told, .int t_fault, .int t_reason, .int t_detail, .int t_index, .int t_answer, .int t_thrown, .ref a_t_way, .int (0 : Int32), .int t_fell])), (a_t_now, .inl (y 0, 77, .inl t_now)), (a_t_way, .inl (y 0, 24, .inl t_way))] H := hP
  have hD : va_D A [(a_t, .inr (12, [.ref a_t_now, .ref a_t_tried, .ref a_t_kept, .int t_undos, .ref a_t_saved, .int t_isSaved, .ref a_t_line, .int t_lined, .ref a_t_text, .int t_length, .int t_at, .int t_order, .ref a_t_told, .int t_fault, .int t_reason, .int t_detail, .int t_index, .int t_answer, .int t_thrown, .ref a_t_way, .int (0 : Int32), .int t_fell])), (a_t_now, .inl (y 0, 77, .inl t_now)), (a_t_way, .inl (y 0, 24, .inl t_way))] := hD
  refine lv_aload_n hx hb dX8_searches_12 rfl (lv_at hl 2 rfl) ?_
  refine lv_iconst (v := 0) hx hb dX8_searches_13 (by decide) ?_
  refine va_put (D := D) (ci := 12) (v := .int (0 : Int32)) (ty := .int) (C := RX8) (T := TX8) (N := 22) hx hb hts iX8_searches_X8 tyX8 tyX8_ok nmX8 hown hK hP hD hS 0 rfl rfl 21 (by decide) (hts (.fieldLink RX8 142 "SkipArchiveModel" "fell" "I") (List.mem_of_getElem? (i := 2) rfl)) (fun _ h9 => h9) rfl (by decide +kernel) rfl rfl (Nat.le_of_ble_eq_true rfl) dX8_searches_14 (fun H locs hP hD hS => ?_)
  have hP : va_P D vwCl [(a_t, .inr (12, [.ref a_t_now, .ref a_t_tried, .ref a_t_kept, .int t_undos, .ref a_t_saved, .int t_isSaved, .ref a_t_line, .int t_lined, .ref a_t_text, .int t_length, .int t_at, .int t_order, .ref a_t_told, .int t_fault, .int t_reason, .int t_detail, .int t_index, .int t_answer, .int t_thrown, .ref a_t_way, .int (0 : Int32), .int (0 : Int32)])), (a_t_now, .inl (y 0, 77, .inl t_now)), (a_t_way, .inl (y 0, 24, .inl t_way))] H := hP
  have hD : va_D A [(a_t, .inr (12, [.ref a_t_now, .ref a_t_tried, .ref a_t_kept, .int t_undos, .ref a_t_saved, .int t_isSaved, .ref a_t_line, .int t_lined, .ref a_t_text, .int t_length, .int t_at, .int t_order, .ref a_t_told, .int t_fault, .int t_reason, .int t_detail, .int t_index, .int t_answer, .int t_thrown, .ref a_t_way, .int (0 : Int32), .int (0 : Int32)])), (a_t_now, .inl (y 0, 77, .inl t_now)), (a_t_way, .inl (y 0, 24, .inl t_way))] := hD
  exact k_17 fl (0 : Int32) (0 : Int32) t_way p1 r_1 (-1 : Int32) hF _ _ hP hD hS ls (lv_sub hl [2, 3, 1, 0] rfl)
def F_X8_folderOf (fl : Nat) (t_thrown : Int32) (t_went : Int32) (t_fell : Int32) (t_now : Nat → Int32) (t_way : Nat → Int32) (p1 : Int32) (p2 : Int32) : Option (Int32 × Int32 × Int32 × Int32 × (Nat → Int32)) := bn (F_X8_isKey fl p1) fun r_6 => if r_6 = 0 then (bn2 (F_X8_raises fl (0 : Int32) (1 : Int32)) fun r_23 t_thrown_23 => some (r_23, t_thrown_23, t_went, t_fell, t_way)) else (bn (F_X8_in fl p2 (0 : Int32) (3 : Int32)) fun r_15 => if r_15 = 0 then (bn2 (F_X8_raises fl (0 : Int32) (1 : Int32)) fun r_23b t_thrown_23b => some (r_23b, t_thrown_23b, t_went, t_fell, t_way)) else (bn (F_X8_find fl t_now p1) fun r_29 => if 0 ≤ r_29 then (if p2 = (0 : Int32) then (bn (F_X8_weight fl t_now r_29) fun r_74 => some (r_74, (0 : Int32), t_went, t_fell, t_way)) else (if p2 = (1 : Int32) then (bn (F_X8_rungs fl t_now r_29) fun r_80 => some (r_80, (0 : Int32), t_went, t_fell, t_way)) else (if p2 = (2 : Int32) then (some (r_29, (0 : Int32), t_went, t_fell, t_way)) else (bn4 (F_X8_searches fl t_went t_fell t_now t_way p1) fun r_88 t_went_88 t_fell_88 t_way_88 => some (r_88, (0 : Int32), t_went_88, t_fell_88, t_way_88))))) else (bn2 (F_X8_raises fl (0 : Int32) (2 : Int32)) fun r_39 t_thrown_39 => some (r_39, t_thrown_39, t_went, t_fell, t_way))))
theorem iX8_folderOf_X8 : ∀ w ∈ u_ws RX8 TX8 22, w ∈ wsX8_folderOf := fun w h => List.mem_cons_of_mem _ (List.mem_append_left _ (List.mem_append_right _ h))
set_option maxHeartbeats 4000000 in
set_option maxRecDepth 100000 in
theorem c_X8_folderOf (l : Launch) (D : va_G) (y : Nat → ClassId) (fl : Nat) (sz : Nat) (a_t : Nat) (a_t_now : Nat) (a_t_tried : Nat) (a_t_kept : Nat) (a_t_saved : Nat) (a_t_line : Nat) (a_t_text : Nat) (a_t_told : Nat) (a_t_way : Nat) (t_undos : Int32) (t_isSaved : Int32) (t_lined : Int32) (t_length : Int32) (t_at : Int32) (t_order : Int32) (t_fault : Int32) (t_reason : Int32) (t_detail : Int32) (t_index : Int32) (t_answer : Int32) (t_thrown : Int32) (t_went : Int32) (t_fell : Int32) (t_now : Nat → Int32) (t_way : Nat → Int32) (p1 : Int32) (p2 : Int32) (r : Int32) (t_thrown' : Int32) (t_went' : Int32) (t_fell' : Int32) (t_way' : Nat → Int32) (hF : F_X8_folderOf fl t_thrown t_went t_fell t_now t_way p1 p2 = some (r, t_thrown', t_went', t_fell', t_way')) : Met l yX8_folderOf wsX8_folderOf (rmq 4 89) (wrP D y [(a_t, .inr (12, [.ref a_t_now, .ref a_t_tried, .ref a_t_kept, .int t_undos, .ref a_t_saved, .int t_isSaved, .ref a_t_line, .int t_lined, .ref a_t_text, .int t_length, .int t_at, .int t_order, .ref a_t_told, .int t_fault, .int t_reason, .int t_detail, .int t_index, .int t_answer, .int t_thrown, .ref a_t_way, .int t_went, .int t_fell])), (a_t_now, .inl (y 0, 77, .inl t_now)), (a_t_way, .inl (y 0, 24, .inl t_way))] sz [.ref a_t, .int p1, .int p2]) (wQi D y r [(a_t, .inr (12, [.ref a_t_now, .ref a_t_tried, .ref a_t_kept, .int t_undos, .ref a_t_saved, .int t_isSaved, .ref a_t_line, .int t_lined, .ref a_t_text, .int t_length, .int t_at, .int t_order, .ref a_t_told, .int t_fault, .int t_reason, .int t_detail, .int t_index, .int t_answer, .int t_thrown', .ref a_t_way, .int t_went', .int t_fell'])), (a_t_now, .inl (y 0, 77, .inl t_now)), (a_t_way, .inl (y 0, 24, .inl t_way'))] [(a_t, .inr (12, [.ref a_t_now, .ref a_t_tried, .ref a_t_kept, .int t_undos, .ref a_t_saved, .int t_isSaved, .ref a_t_line, .int t_lined, .ref a_t_text, .int t_length, .int t_at, .int t_order, .ref a_t_told, .int t_fault, .int t_reason, .int t_detail, .int t_index, .int t_answer, .int t_thrown, .ref a_t_way, .int t_went, .int t_fell])), (a_t_now, .inl (y 0, 77, .inl t_now)), (a_t_way, .inl (y 0, 24, .inl t_way))] sz) 0 0 (va_A [(a_t, .inr (12, [.ref a_t_now, .ref a_t_tried, .ref a_t_kept, .int t_undos, .ref a_t_saved, .int t_isSaved, .ref a_t_line, .int t_lined, .ref a_t_text, .int t_length, .int t_at, .int t_order, .ref a_t_told, .int t_fault, .int t_reason, .int t_detail, .int t_index, .int t_answer, .int t_thrown, .ref a_t_way, .int t_went, .int t_fell])), (a_t_now, .inl (y 0, 77, .inl t_now)), (a_t_way, .inl (y 0, 24, .inl t_way))] sz) := by
  refine Met.ofW (cc := cX8_folderOf) (maxL := 4) (ret := (some .int)) (by decide) rfl ?_
  intro p e s m args below meth c s₁ B hml hv
  obtain ⟨hav, hsz, hP, hK, hD0⟩ := hv
  have hx := B.exec
  have hb := B.bytes
  have hr := B.returns
  have hts := atoms_spec (ws := wsX8_folderOf) B.pre
  have hown : s.vm.findClass RX8 = some m.cls := findClass_of_methodNamed B.named
  have hlocks := B.notSynchronized
  subst hsz
  have hD := hD0.self (sz := s.heap.size)
  obtain ⟨A, hAe⟩ : ∃ A : Nat → Prop, va_A [(a_t, .inr (12, [.ref a_t_now, .ref a_t_tried, .ref a_t_kept, .int t_undos, .ref a_t_saved, .int t_isSaved, .ref a_t_line, .int t_lined, .ref a_t_text, .int t_length, .int t_at, .int t_order, .ref a_t_told, .int t_fault, .int t_reason, .int t_detail, .int t_index, .int t_answer, .int t_thrown, .ref a_t_way, .int t_went, .int t_fell])), (a_t_now, .inl (y 0, 77, .inl t_now)), (a_t_way, .inl (y 0, 24, .inl t_way))] s.heap.size = A := ⟨_, rfl⟩
  rw [hAe] at hD
  have hA : ∀ q, s.heap.size ≤ q → A q := fun q h => by rw [← hAe]; exact Or.inr h
  have hS : va_S A s.heap s.heap [] := va_S.rf
  refine W_q (R1 := (rmq 4 89)) rfl (fun Q0 hQ0 => ?_)
  unfold F_X8_folderOf at hF
  refine W_entry hav (Nat.le_of_ble_eq_true rfl) (fun ls hl => ?_)
  have hl : lv_has ls 4 [(0, .ref a_t), (1, .int p1), (2, .int p2)] := hl
  refine lv_aload_n hx hb dX8_folderOf_0 rfl (lv_at hl 0 rfl) ?_
  refine lv_iconst (v := 0) hx hb dX8_folderOf_1 (by decide) ?_
  refine va_put (D := D) (ci := 12) (v := .int (0 : Int32)) (ty := .int) (C := RX8) (T := TX8) (N := 22) hx hb hts iX8_folderOf_X8 tyX8 tyX8_ok nmX8 hown hK hP hD hS 0 rfl rfl 18 (by decide) (hts (.fieldLink RX8 39 "SkipArchiveModel" "thrown" "I") (List.mem_of_getElem? (i := 1) rfl)) (fun _ h9 => h9) rfl (by decide +kernel) rfl rfl (Nat.le_of_ble_eq_true rfl) dX8_folderOf_2 (fun H locs hP hD hS => ?_)
  have hP : va_P D vwCl [(a_t, .inr (12, [.ref a_t_now, .ref a_t_tried, .ref a_t_kept, .int t_undos, .ref a_t_saved, .int t_isSaved, .ref a_t_line, .int t_lined, .ref a_t_text, .int t_length, .int t_at, .int t_order, .ref a_t_told, .int t_fault, .int t_reason, .int t_detail, .int t_index, .int t_answer, .int (0 : Int32), .ref a_t_way, .int t_went, .int t_fell])), (a_t_now, .inl (y 0, 77, .inl t_now)), (a_t_way, .inl (y 0, 24, .inl t_way))] H := hP
  have hD : va_D A [(a_t, .inr (12, [.ref a_t_now, .ref a_t_tried, .ref a_t_kept, .int t_undos, .ref a_t_saved, .int t_isSaved, .ref a_t_line, .int t_lined, .ref a_t_text, .int t_length, .int t_at, .int t_order, .ref a_t_told, .int t_fault, .int t_reason, .int t_detail, .int t_index, .int t_answer, .int (0 : Int32), .ref a_t_way, .int t_went, .int t_fell])), (a_t_now, .inl (y 0, 77, .inl t_now)), (a_t_way, .inl (y 0, 24, .inl t_way))] := hD
  refine lv_iload_n hx hb dX8_folderOf_5 rfl (lv_at hl 1 rfl) ?_
  obtain ⟨r_6, hq_6, hF⟩ := bn_i hF
  refine cr_S (As := [.int p1]) (rest := []) ⟨hx, hb, hml, hown, hts⟩ (c_X8_isKey l D y fl p1 r_6 hq_6) (va_cwS 1 hts gX8_folderOf_X8_isKey rfl rfl rfl (by decide +kernel) ⟨Nat.le_of_ble_eq_true rfl, Nat.le_of_ble_eq_true rfl⟩) hK hP [] rfl rfl hl.1 rfl (Nat.le_of_ble_eq_true rfl) dX8_folderOf_6 ⟨Nat.le_of_ble_eq_true rfl, Nat.le_of_ble_eq_true rfl⟩ ?_
  refine lv_if_eq (tgt := 21) hx hb dX8_folderOf_9 (by decide) (fun c_9 => ?_) (fun c_9 => ?_)
  · have hF := ift hF c_9
    refine lv_aload_n hx hb dX8_folderOf_21 rfl (lv_at hl 0 rfl) ?_
    refine lv_iconst (v := 1) hx hb dX8_folderOf_22 (by decide) ?_
    obtain ⟨r_23, t_thrown_23, hq_23, hF⟩ := bn2_i hF
    refine cm_Vi (As := [.int (1 : Int32)]) (rest := []) (wr := [(a_t_now, .inl (y 0, 77, .inl t_now)), (a_t_way, .inl (y 0, 24, .inl t_way))]) ⟨hx, hb, hml, hown, hts⟩ (c_X8_raises l D y fl H.size a_t a_t_now a_t_tried a_t_kept a_t_saved a_t_line a_t_text a_t_told a_t_way t_undos t_isSaved t_lined t_length t_at t_order t_fault t_reason t_detail t_index t_answer (0 : Int32) t_went t_fell (1 : Int32) r_23 t_thrown_23 hq_23) (cwV 1 hts gX8_folderOf_X8_raises rfl rfl rfl (by decide +kernel) ⟨Nat.le_of_ble_eq_true rfl, Nat.le_of_ble_eq_true rfl⟩) hK hP hD hS hA [0] [1, 2] rfl rfl rfl rfl (by decide) rfl rfl rfl hl.1 rfl (Nat.le_of_ble_eq_true rfl) dX8_folderOf_23 ⟨Nat.le_of_ble_eq_true rfl, Nat.le_of_ble_eq_true rfl⟩ (fun H locs hP hD hS => ?_)
    have hP : va_P D vwCl [(a_t_now, .inl (y 0, 77, .inl t_now)), (a_t_way, .inl (y 0, 24, .inl t_way)), (a_t, .inr (12, [.ref a_t_now, .ref a_t_tried, .ref a_t_kept, .int t_undos, .ref a_t_saved, .int t_isSaved, .ref a_t_line, .int t_lined, .ref a_t_text, .int t_length, .int t_at, .int t_order, .ref a_t_told, .int t_fault, .int t_reason, .int t_detail, .int t_index, .int t_answer, .int t_thrown_23, .ref a_t_way, .int t_went, .int t_fell]))] H := hP
    have hD : va_D A [(a_t_now, .inl (y 0, 77, .inl t_now)), (a_t_way, .inl (y 0, 24, .inl t_way)), (a_t, .inr (12, [.ref a_t_now, .ref a_t_tried, .ref a_t_kept, .int t_undos, .ref a_t_saved, .int t_isSaved, .ref a_t_line, .int t_lined, .ref a_t_text, .int t_length, .int t_at, .int t_order, .ref a_t_told, .int t_fault, .int t_reason, .int t_detail, .int t_index, .int t_answer, .int t_thrown_23, .ref a_t_way, .int t_went, .int t_fell]))] := hD
    obtain ⟨e0_26, e1_26, e2_26, e3_26, e4_26⟩ := inj5 hF
    rw [← e0_26, ← e1_26, ← e2_26, ← e3_26, ← e4_26] at hQ0
    rw [hQ0]
    exact ret_i hx hb hr hlocks hAe hK hP hD hS [2, 0, 1] rfl rfl dX8_folderOf_26
  · have hF := iff_ hF c_9
    refine lv_iload_n hx hb dX8_folderOf_12 rfl (lv_at hl 2 rfl) ?_
    refine lv_iconst (v := 0) hx hb dX8_folderOf_13 (by decide) ?_
    refine lv_iconst (v := 3) hx hb dX8_folderOf_14 (by decide) ?_
    obtain ⟨r_15, hq_15, hF⟩ := bn_i hF
    refine cr_S (As := [.int p2, .int (0 : Int32), .int (3 : Int32)]) (rest := []) ⟨hx, hb, hml, hown, hts⟩ (c_X8_in l D y fl p2 (0 : Int32) (3 : Int32) r_15 hq_15) (va_cwS 3 hts gX8_folderOf_X8_in rfl rfl rfl (by decide +kernel) ⟨Nat.le_of_ble_eq_true rfl, Nat.le_of_ble_eq_true rfl⟩) hK hP [] rfl rfl hl.1 rfl (Nat.le_of_ble_eq_true rfl) dX8_folderOf_15 ⟨Nat.le_of_ble_eq_true rfl, Nat.le_of_ble_eq_true rfl⟩ ?_
    refine lv_if_ne (tgt := 27) hx hb dX8_folderOf_18 (by decide) (fun c_18 => ?_) (fun c_18 => ?_)
    · have hF := iff_ hF c_18
      refine lv_aload_n hx hb dX8_folderOf_27 rfl (lv_at hl 0 rfl) ?_
      refine lv_iload_n hx hb dX8_folderOf_28 rfl (lv_at hl 1 rfl) ?_
      obtain ⟨r_29, hq_29, hF⟩ := bn_i hF
      refine cr_V (As := [.int p1]) (rest := []) ⟨hx, hb, hml, hown, hts⟩ (c_X8_find l D y fl a_t a_t_now a_t_tried a_t_kept a_t_saved a_t_line a_t_text a_t_told a_t_way t_undos t_isSaved t_lined t_length t_at t_order t_fault t_reason t_detail t_index t_answer (0 : Int32) t_went t_fell t_now p1 r_29 hq_29) (cwV 1 hts gX8_folderOf_X8_find rfl rfl rfl (by decide +kernel) ⟨Nat.le_of_ble_eq_true rfl, Nat.le_of_ble_eq_true rfl⟩) hK hP [0, 1] rfl rfl rfl rfl hl.1 rfl (Nat.le_of_ble_eq_true rfl) dX8_folderOf_29 ⟨Nat.le_of_ble_eq_true rfl, Nat.le_of_ble_eq_true rfl⟩ ?_
      refine lv_istore_n (lv' := [(3, .int r_29), (0, .ref a_t), (1, .int p1), (2, .int p2)]) hx hb dX8_folderOf_32 rfl hl (by decide) rfl (fun ls hl => ?_)
      refine lv_iload_n hx hb dX8_folderOf_33 rfl (lv_at hl 0 rfl) ?_
      refine lv_if_ge (tgt := 43) hx hb dX8_folderOf_34 (by decide) (fun c_34 => ?_) (fun c_34 => ?_)
      · have hF := ift hF c_34
        refine lv_iload_n hx hb dX8_folderOf_43 rfl (lv_at hl 3 rfl) ?_
        by_cases c0_44 : p2 = (0 : Int32)
        · have hF := ift hF c0_44
          refine lv_tableIn (tgt := 72) hx hb dX8_folderOf_44 (by rw [c0_44]; decide) (by rw [c0_44]; decide) (by rw [c0_44]; rfl) (by decide) ?_
          refine lv_aload_n hx hb dX8_folderOf_72 rfl (lv_at hl 1 rfl) ?_
          refine lv_iload_n hx hb dX8_folderOf_73 rfl (lv_at hl 0 rfl) ?_
          obtain ⟨r_74, hq_74, hF⟩ := bn_i hF
          refine cr_V (As := [.int r_29]) (rest := []) ⟨hx, hb, hml, hown, hts⟩ (c_X8_weight l D y fl a_t a_t_now a_t_tried a_t_kept a_t_saved a_t_line a_t_text a_t_told a_t_way t_undos t_isSaved t_lined t_length t_at t_order t_fault t_reason t_detail t_index t_answer (0 : Int32) t_went t_fell t_now r_29 r_74 hq_74) (cwV 1 hts gX8_folderOf_X8_weight rfl rfl rfl (by decide +kernel) ⟨Nat.le_of_ble_eq_true rfl, Nat.le_of_ble_eq_true rfl⟩) hK hP [0, 1] rfl rfl rfl rfl hl.1 rfl (Nat.le_of_ble_eq_true rfl) dX8_folderOf_74 ⟨Nat.le_of_ble_eq_true rfl, Nat.le_of_ble_eq_true rfl⟩ ?_
          obtain ⟨e0_77, e1_77, e2_77, e3_77, e4_77⟩ := inj5 hF
          rw [← e0_77, ← e1_77, ← e2_77, ← e3_77, ← e4_77] at hQ0
          rw [hQ0]
          exact ret_i hx hb hr hlocks hAe hK hP hD hS [0, 1, 2] rfl rfl dX8_folderOf_77
        · have hF := iff_ hF c0_44
          by_cases c1_44 : p2 = (1 : Int32)
          · have hF := ift hF c1_44
            refine lv_tableIn (tgt := 78) hx hb dX8_folderOf_44 (by rw [c1_44]; decide) (by rw [c1_44]; decide) (by rw [c1_44]; rfl) (by decide) ?_
            refine lv_aload_n hx hb dX8_folderOf_78 rfl (lv_at hl 1 rfl) ?_
            refine lv_iload_n hx hb dX8_folderOf_79 rfl (lv_at hl 0 rfl) ?_
            obtain ⟨r_80, hq_80, hF⟩ := bn_i hF
            refine cr_V (As := [.int r_29]) (rest := []) ⟨hx, hb, hml, hown, hts⟩ (c_X8_rungs l D y fl a_t a_t_now a_t_tried a_t_kept a_t_saved a_t_line a_t_text a_t_told a_t_way t_undos t_isSaved t_lined t_length t_at t_order t_fault t_reason t_detail t_index t_answer (0 : Int32) t_went t_fell t_now r_29 r_80 hq_80) (cwV 1 hts gX8_folderOf_X8_rungs rfl rfl rfl (by decide +kernel) ⟨Nat.le_of_ble_eq_true rfl, Nat.le_of_ble_eq_true rfl⟩) hK hP [0, 1] rfl rfl rfl rfl hl.1 rfl (Nat.le_of_ble_eq_true rfl) dX8_folderOf_80 ⟨Nat.le_of_ble_eq_true rfl, Nat.le_of_ble_eq_true rfl⟩ ?_
            obtain ⟨e0_83, e1_83, e2_83, e3_83, e4_83⟩ := inj5 hF
            rw [← e0_83, ← e1_83, ← e2_83, ← e3_83, ← e4_83] at hQ0
            rw [hQ0]
            exact ret_i hx hb hr hlocks hAe hK hP hD hS [0, 1, 2] rfl rfl dX8_folderOf_83
          · have hF := iff_ hF c1_44
            by_cases c2_44 : p2 = (2 : Int32)
            · have hF := ift hF c2_44
              refine lv_tableIn (tgt := 84) hx hb dX8_folderOf_44 (by rw [c2_44]; decide) (by rw [c2_44]; decide) (by rw [c2_44]; rfl) (by decide) ?_
              refine lv_iload_n hx hb dX8_folderOf_84 rfl (lv_at hl 0 rfl) ?_
              obtain ⟨e0_85, e1_85, e2_85, e3_85, e4_85⟩ := inj5 hF
              rw [← e0_85, ← e1_85, ← e2_85, ← e3_85, ← e4_85] at hQ0
              rw [hQ0]
              exact ret_i hx hb hr hlocks hAe hK hP hD hS [0, 1, 2] rfl rfl dX8_folderOf_85
            · have hF := iff_ hF c2_44
              refine lv_tableOut (tgt := 86) hx hb dX8_folderOf_44 (tbl_out (x := p2) (lo := 0) (hi := 2) (fun v h1 h2 q => if z : v = 0 then c0_44 (Int32.toInt_inj.mp (q.trans z)) else if z : v = 1 then c1_44 (Int32.toInt_inj.mp (q.trans z)) else if z : v = 2 then c2_44 (Int32.toInt_inj.mp (q.trans z)) else by omega)) (by decide) ?_
              refine lv_aload_n hx hb dX8_folderOf_86 rfl (lv_at hl 1 rfl) ?_
              refine lv_iload_n hx hb dX8_folderOf_87 rfl (lv_at hl 2 rfl) ?_
              obtain ⟨r_88, t_went_88, t_fell_88, t_way_88, hq_88, hF⟩ := bn4_i hF
              refine cm_Vi (As := [.int p1]) (rest := []) (wr := []) ⟨hx, hb, hml, hown, hts⟩ (c_X8_searches l D y fl H.size a_t a_t_now a_t_tried a_t_kept a_t_saved a_t_line a_t_text a_t_told a_t_way t_undos t_isSaved t_lined t_length t_at t_order t_fault t_reason t_detail t_index t_answer (0 : Int32) t_went t_fell t_now t_way p1 r_88 t_went_88 t_fell_88 t_way_88 hq_88) (cwV 1 hts gX8_folderOf_X8_searches rfl rfl rfl (by decide +kernel) ⟨Nat.le_of_ble_eq_true rfl, Nat.le_of_ble_eq_true rfl⟩) hK hP hD hS hA [0, 1, 2] [] rfl rfl rfl rfl (by decide) rfl rfl rfl hl.1 rfl (Nat.le_of_ble_eq_true rfl) dX8_folderOf_88 ⟨Nat.le_of_ble_eq_true rfl, Nat.le_of_ble_eq_true rfl⟩ (fun H locs hP hD hS => ?_)
              have hP : va_P D vwCl [(a_t, .inr (12, [.ref a_t_now, .ref a_t_tried, .ref a_t_kept, .int t_undos, .ref a_t_saved, .int t_isSaved, .ref a_t_line, .int t_lined, .ref a_t_text, .int t_length, .int t_at, .int t_order, .ref a_t_told, .int t_fault, .int t_reason, .int t_detail, .int t_index, .int t_answer, .int (0 : Int32), .ref a_t_way, .int t_went_88, .int t_fell_88])), (a_t_now, .inl (y 0, 77, .inl t_now)), (a_t_way, .inl (y 0, 24, .inl t_way_88))] H := hP
              have hD : va_D A [(a_t, .inr (12, [.ref a_t_now, .ref a_t_tried, .ref a_t_kept, .int t_undos, .ref a_t_saved, .int t_isSaved, .ref a_t_line, .int t_lined, .ref a_t_text, .int t_length, .int t_at, .int t_order, .ref a_t_told, .int t_fault, .int t_reason, .int t_detail, .int t_index, .int t_answer, .int (0 : Int32), .ref a_t_way, .int t_went_88, .int t_fell_88])), (a_t_now, .inl (y 0, 77, .inl t_now)), (a_t_way, .inl (y 0, 24, .inl t_way_88))] := hD
              obtain ⟨e0_91, e1_91, e2_91, e3_91, e4_91⟩ := inj5 hF
              rw [← e0_91, ← e1_91, ← e2_91, ← e3_91, ← e4_91] at hQ0
              rw [hQ0]
              exact ret_i hx hb hr hlocks hAe hK hP hD hS [0, 1, 2] rfl rfl dX8_folderOf_91
      · have hF := iff_ hF c_34
        refine lv_aload_n hx hb dX8_folderOf_37 rfl (lv_at hl 1 rfl) ?_
        refine lv_iconst (v := 2) hx hb dX8_folderOf_38 (by decide) ?_
        obtain ⟨r_39, t_thrown_39, hq_39, hF⟩ := bn2_i hF
        refine cm_Vi (As := [.int (2 : Int32)]) (rest := []) (wr := [(a_t_now, .inl (y 0, 77, .inl t_now)), (a_t_way, .inl (y 0, 24, .inl t_way))]) ⟨hx, hb, hml, hown, hts⟩ (c_X8_raises l D y fl H.size a_t a_t_now a_t_tried a_t_kept a_t_saved a_t_line a_t_text a_t_told a_t_way t_undos t_isSaved t_lined t_length t_at t_order t_fault t_reason t_detail t_index t_answer (0 : Int32) t_went t_fell (2 : Int32) r_39 t_thrown_39 hq_39) (cwV 1 hts gX8_folderOf_X8_raises rfl rfl rfl (by decide +kernel) ⟨Nat.le_of_ble_eq_true rfl, Nat.le_of_ble_eq_true rfl⟩) hK hP hD hS hA [0] [1, 2] rfl rfl rfl rfl (by decide) rfl rfl rfl hl.1 rfl (Nat.le_of_ble_eq_true rfl) dX8_folderOf_39 ⟨Nat.le_of_ble_eq_true rfl, Nat.le_of_ble_eq_true rfl⟩ (fun H locs hP hD hS => ?_)
        have hP : va_P D vwCl [(a_t_now, .inl (y 0, 77, .inl t_now)), (a_t_way, .inl (y 0, 24, .inl t_way)), (a_t, .inr (12, [.ref a_t_now, .ref a_t_tried, .ref a_t_kept, .int t_undos, .ref a_t_saved, .int t_isSaved, .ref a_t_line, .int t_lined, .ref a_t_text, .int t_length, .int t_at, .int t_order, .ref a_t_told, .int t_fault, .int t_reason, .int t_detail, .int t_index, .int t_answer, .int t_thrown_39, .ref a_t_way, .int t_went, .int t_fell]))] H := hP
        have hD : va_D A [(a_t_now, .inl (y 0, 77, .inl t_now)), (a_t_way, .inl (y 0, 24, .inl t_way)), (a_t, .inr (12, [.ref a_t_now, .ref a_t_tried, .ref a_t_kept, .int t_undos, .ref a_t_saved, .int t_isSaved, .ref a_t_line, .int t_lined, .ref a_t_text, .int t_length, .int t_at, .int t_order, .ref a_t_told, .int t_fault, .int t_reason, .int t_detail, .int t_index, .int t_answer, .int t_thrown_39, .ref a_t_way, .int t_went, .int t_fell]))] := hD
        obtain ⟨e0_42, e1_42, e2_42, e3_42, e4_42⟩ := inj5 hF
        rw [← e0_42, ← e1_42, ← e2_42, ← e3_42, ← e4_42] at hQ0
        rw [hQ0]
        exact ret_i hx hb hr hlocks hAe hK hP hD hS [2, 0, 1] rfl rfl dX8_folderOf_42
    · have hF := ift hF c_18
      refine lv_aload_n hx hb dX8_folderOf_21 rfl (lv_at hl 0 rfl) ?_
      refine lv_iconst (v := 1) hx hb dX8_folderOf_22 (by decide) ?_
      obtain ⟨r_23b, t_thrown_23b, hq_23b, hF⟩ := bn2_i hF
      refine cm_Vi (As := [.int (1 : Int32)]) (rest := []) (wr := [(a_t_now, .inl (y 0, 77, .inl t_now)), (a_t_way, .inl (y 0, 24, .inl t_way))]) ⟨hx, hb, hml, hown, hts⟩ (c_X8_raises l D y fl H.size a_t a_t_now a_t_tried a_t_kept a_t_saved a_t_line a_t_text a_t_told a_t_way t_undos t_isSaved t_lined t_length t_at t_order t_fault t_reason t_detail t_index t_answer (0 : Int32) t_went t_fell (1 : Int32) r_23b t_thrown_23b hq_23b) (cwV 1 hts gX8_folderOf_X8_raises rfl rfl rfl (by decide +kernel) ⟨Nat.le_of_ble_eq_true rfl, Nat.le_of_ble_eq_true rfl⟩) hK hP hD hS hA [0] [1, 2] rfl rfl rfl rfl (by decide) rfl rfl rfl hl.1 rfl (Nat.le_of_ble_eq_true rfl) dX8_folderOf_23 ⟨Nat.le_of_ble_eq_true rfl, Nat.le_of_ble_eq_true rfl⟩ (fun H locs hP hD hS => ?_)
      have hP : va_P D vwCl [(a_t_now, .inl (y 0, 77, .inl t_now)), (a_t_way, .inl (y 0, 24, .inl t_way)), (a_t, .inr (12, [.ref a_t_now, .ref a_t_tried, .ref a_t_kept, .int t_undos, .ref a_t_saved, .int t_isSaved, .ref a_t_line, .int t_lined, .ref a_t_text, .int t_length, .int t_at, .int t_order, .ref a_t_told, .int t_fault, .int t_reason, .int t_detail, .int t_index, .int t_answer, .int t_thrown_23b, .ref a_t_way, .int t_went, .int t_fell]))] H := hP
      have hD : va_D A [(a_t_now, .inl (y 0, 77, .inl t_now)), (a_t_way, .inl (y 0, 24, .inl t_way)), (a_t, .inr (12, [.ref a_t_now, .ref a_t_tried, .ref a_t_kept, .int t_undos, .ref a_t_saved, .int t_isSaved, .ref a_t_line, .int t_lined, .ref a_t_text, .int t_length, .int t_at, .int t_order, .ref a_t_told, .int t_fault, .int t_reason, .int t_detail, .int t_index, .int t_answer, .int t_thrown_23b, .ref a_t_way, .int t_went, .int t_fell]))] := hD
      obtain ⟨e0_26, e1_26, e2_26, e3_26, e4_26⟩ := inj5 hF
      rw [← e0_26, ← e1_26, ← e2_26, ← e3_26, ← e4_26] at hQ0
      rw [hQ0]
      exact ret_i hx hb hr hlocks hAe hK hP hD hS [2, 0, 1] rfl rfl dX8_folderOf_26
def F_X8_rank (fl : Nat) (t_thrown : Int32) (t_now : Nat → Int32) (p1 : Int32) : Option (Int32 × Int32) := bn (F_X8_isKey fl p1) fun r_6 => if r_6 = 0 then (bn2 (F_X8_raises fl (0 : Int32) (1 : Int32)) fun r_23 t_thrown_23 => some (r_23, t_thrown_23)) else (bn (F_X8_lower fl t_now p1 (0 : Int32)) fun r_15 => some (r_15, (0 : Int32)))
theorem iX8_rank_X8 : ∀ w ∈ u_ws RX8 TX8 22, w ∈ wsX8_rank := fun w h => List.mem_cons_of_mem _ (List.mem_append_left _ (List.mem_append_right _ h))
set_option maxHeartbeats 4000000 in
set_option maxRecDepth 100000 in
theorem c_X8_rank (l : Launch) (D : va_G) (y : Nat → ClassId) (fl : Nat) (sz : Nat) (a_t : Nat) (a_t_now : Nat) (a_t_tried : Nat) (a_t_kept : Nat) (a_t_saved : Nat) (a_t_line : Nat) (a_t_text : Nat) (a_t_told : Nat) (a_t_way : Nat) (t_undos : Int32) (t_isSaved : Int32) (t_lined : Int32) (t_length : Int32) (t_at : Int32) (t_order : Int32) (t_fault : Int32) (t_reason : Int32) (t_detail : Int32) (t_index : Int32) (t_answer : Int32) (t_thrown : Int32) (t_went : Int32) (t_fell : Int32) (t_now : Nat → Int32) (p1 : Int32) (r : Int32) (t_thrown' : Int32) (hF : F_X8_rank fl t_thrown t_now p1 = some (r, t_thrown')) : Met l yX8_rank wsX8_rank (rmq 2 44) (wrP D y [(a_t, .inr (12, [.ref a_t_now, .ref a_t_tried, .ref a_t_kept, .int t_undos, .ref a_t_saved, .int t_isSaved, .ref a_t_line, .int t_lined, .ref a_t_text, .int t_length, .int t_at, .int t_order, .ref a_t_told, .int t_fault, .int t_reason, .int t_detail, .int t_index, .int t_answer, .int t_thrown, .ref a_t_way, .int t_went, .int t_fell])), (a_t_now, .inl (y 0, 77, .inl t_now))] sz [.ref a_t, .int p1]) (wQi D y r [(a_t, .inr (12, [.ref a_t_now, .ref a_t_tried, .ref a_t_kept, .int t_undos, .ref a_t_saved, .int t_isSaved, .ref a_t_line, .int t_lined, .ref a_t_text, .int t_length, .int t_at, .int t_order, .ref a_t_told, .int t_fault, .int t_reason, .int t_detail, .int t_index, .int t_answer, .int t_thrown', .ref a_t_way, .int t_went, .int t_fell])), (a_t_now, .inl (y 0, 77, .inl t_now))] [(a_t, .inr (12, [.ref a_t_now, .ref a_t_tried, .ref a_t_kept, .int t_undos, .ref a_t_saved, .int t_isSaved, .ref a_t_line, .int t_lined, .ref a_t_text, .int t_length, .int t_at, .int t_order, .ref a_t_told, .int t_fault, .int t_reason, .int t_detail, .int t_index, .int t_answer, .int t_thrown, .ref a_t_way, .int t_went, .int t_fell])), (a_t_now, .inl (y 0, 77, .inl t_now))] sz) 0 0 (va_A [(a_t, .inr (12, [.ref a_t_now, .ref a_t_tried, .ref a_t_kept, .int t_undos, .ref a_t_saved, .int t_isSaved, .ref a_t_line, .int t_lined, .ref a_t_text, .int t_length, .int t_at, .int t_order, .ref a_t_told, .int t_fault, .int t_reason, .int t_detail, .int t_index, .int t_answer, .int t_thrown, .ref a_t_way, .int t_went, .int t_fell])), (a_t_now, .inl (y 0, 77, .inl t_now))] sz) := by
  refine Met.ofW (cc := cX8_rank) (maxL := 2) (ret := (some .int)) (by decide) rfl ?_
  intro p e s m args below meth c s₁ B hml hv
  obtain ⟨hav, hsz, hP, hK, hD0⟩ := hv
  have hx := B.exec
  have hb := B.bytes
  have hr := B.returns
  have hts := atoms_spec (ws := wsX8_rank) B.pre
  have hown : s.vm.findClass RX8 = some m.cls := findClass_of_methodNamed B.named
  have hlocks := B.notSynchronized
  subst hsz
  have hD := hD0.self (sz := s.heap.size)
  obtain ⟨A, hAe⟩ : ∃ A : Nat → Prop, va_A [(a_t, .inr (12, [.ref a_t_now, .ref a_t_tried, .ref a_t_kept, .int t_undos, .ref a_t_saved, .int t_isSaved, .ref a_t_line, .int t_lined, .ref a_t_text, .int t_length, .int t_at, .int t_order, .ref a_t_told, .int t_fault, .int t_reason, .int t_detail, .int t_index, .int t_answer, .int t_thrown, .ref a_t_way, .int t_went, .int t_fell])), (a_t_now, .inl (y 0, 77, .inl t_now))] s.heap.size = A := ⟨_, rfl⟩
  rw [hAe] at hD
  have hA : ∀ q, s.heap.size ≤ q → A q := fun q h => by rw [← hAe]; exact Or.inr h
  have hS : va_S A s.heap s.heap [] := va_S.rf
  refine W_q (R1 := (rmq 2 44)) rfl (fun Q0 hQ0 => ?_)
  unfold F_X8_rank at hF
  refine W_entry hav (Nat.le_of_ble_eq_true rfl) (fun ls hl => ?_)
  have hl : lv_has ls 2 [(0, .ref a_t), (1, .int p1)] := hl
  refine lv_aload_n hx hb dX8_rank_0 rfl (lv_at hl 0 rfl) ?_
  refine lv_iconst (v := 0) hx hb dX8_rank_1 (by decide) ?_
  refine va_put (D := D) (ci := 12) (v := .int (0 : Int32)) (ty := .int) (C := RX8) (T := TX8) (N := 22) hx hb hts iX8_rank_X8 tyX8 tyX8_ok nmX8 hown hK hP hD hS 0 rfl rfl 18 (by decide) (hts (.fieldLink RX8 39 "SkipArchiveModel" "thrown" "I") (List.mem_of_getElem? (i := 1) rfl)) (fun _ h9 => h9) rfl (by decide +kernel) rfl rfl (Nat.le_of_ble_eq_true rfl) dX8_rank_2 (fun H locs hP hD hS => ?_)
  have hP : va_P D vwCl [(a_t, .inr (12, [.ref a_t_now, .ref a_t_tried, .ref a_t_kept, .int t_undos, .ref a_t_saved, .int t_isSaved, .ref a_t_line, .int t_lined, .ref a_t_text, .int t_length, .int t_at, .int t_order, .ref a_t_told, .int t_fault, .int t_reason, .int t_detail, .int t_index, .int t_answer, .int (0 : Int32), .ref a_t_way, .int t_went, .int t_fell])), (a_t_now, .inl (y 0, 77, .inl t_now))] H := hP
  have hD : va_D A [(a_t, .inr (12, [.ref a_t_now, .ref a_t_tried, .ref a_t_kept, .int t_undos, .ref a_t_saved, .int t_isSaved, .ref a_t_line, .int t_lined, .ref a_t_text, .int t_length, .int t_at, .int t_order, .ref a_t_told, .int t_fault, .int t_reason, .int t_detail, .int t_index, .int t_answer, .int (0 : Int32), .ref a_t_way, .int t_went, .int t_fell])), (a_t_now, .inl (y 0, 77, .inl t_now))] := hD
  refine lv_iload_n hx hb dX8_rank_5 rfl (lv_at hl 1 rfl) ?_
  obtain ⟨r_6, hq_6, hF⟩ := bn_i hF
  refine cr_S (As := [.int p1]) (rest := []) ⟨hx, hb, hml, hown, hts⟩ (c_X8_isKey l D y fl p1 r_6 hq_6) (va_cwS 1 hts gX8_rank_X8_isKey rfl rfl rfl (by decide +kernel) ⟨Nat.le_of_ble_eq_true rfl, Nat.le_of_ble_eq_true rfl⟩) hK hP [] rfl rfl hl.1 rfl (Nat.le_of_ble_eq_true rfl) dX8_rank_6 ⟨Nat.le_of_ble_eq_true rfl, Nat.le_of_ble_eq_true rfl⟩ ?_
  refine lv_if_eq (tgt := 21) hx hb dX8_rank_9 (by decide) (fun c_9 => ?_) (fun c_9 => ?_)
  · have hF := ift hF c_9
    refine lv_aload_n hx hb dX8_rank_21 rfl (lv_at hl 0 rfl) ?_
    refine lv_iconst (v := 1) hx hb dX8_rank_22 (by decide) ?_
    obtain ⟨r_23, t_thrown_23, hq_23, hF⟩ := bn2_i hF
    refine cm_Vi (As := [.int (1 : Int32)]) (rest := []) (wr := [(a_t_now, .inl (y 0, 77, .inl t_now))]) ⟨hx, hb, hml, hown, hts⟩ (c_X8_raises l D y fl H.size a_t a_t_now a_t_tried a_t_kept a_t_saved a_t_line a_t_text a_t_told a_t_way t_undos t_isSaved t_lined t_length t_at t_order t_fault t_reason t_detail t_index t_answer (0 : Int32) t_went t_fell (1 : Int32) r_23 t_thrown_23 hq_23) (cwV 1 hts gX8_rank_X8_raises rfl rfl rfl (by decide +kernel) ⟨Nat.le_of_ble_eq_true rfl, Nat.le_of_ble_eq_true rfl⟩) hK hP hD hS hA [0] [1] rfl rfl rfl rfl (by decide) rfl rfl rfl hl.1 rfl (Nat.le_of_ble_eq_true rfl) dX8_rank_23 ⟨Nat.le_of_ble_eq_true rfl, Nat.le_of_ble_eq_true rfl⟩ (fun H locs hP hD hS => ?_)
    have hP : va_P D vwCl [(a_t_now, .inl (y 0, 77, .inl t_now)), (a_t, .inr (12, [.ref a_t_now, .ref a_t_tried, .ref a_t_kept, .int t_undos, .ref a_t_saved, .int t_isSaved, .ref a_t_line, .int t_lined, .ref a_t_text, .int t_length, .int t_at, .int t_order, .ref a_t_told, .int t_fault, .int t_reason, .int t_detail, .int t_index, .int t_answer, .int t_thrown_23, .ref a_t_way, .int t_went, .int t_fell]))] H := hP
    have hD : va_D A [(a_t_now, .inl (y 0, 77, .inl t_now)), (a_t, .inr (12, [.ref a_t_now, .ref a_t_tried, .ref a_t_kept, .int t_undos, .ref a_t_saved, .int t_isSaved, .ref a_t_line, .int t_lined, .ref a_t_text, .int t_length, .int t_at, .int t_order, .ref a_t_told, .int t_fault, .int t_reason, .int t_detail, .int t_index, .int t_answer, .int t_thrown_23, .ref a_t_way, .int t_went, .int t_fell]))] := hD
    obtain ⟨e0_26, e1_26⟩ := inj2 hF
    rw [← e0_26, ← e1_26] at hQ0
    rw [hQ0]
    exact ret_i hx hb hr hlocks hAe hK hP hD hS [1, 0] rfl rfl dX8_rank_26
  · have hF := iff_ hF c_9
    refine lv_aload_n hx hb dX8_rank_12 rfl (lv_at hl 0 rfl) ?_
    refine lv_iload_n hx hb dX8_rank_13 rfl (lv_at hl 1 rfl) ?_
    refine lv_iconst (v := 0) hx hb dX8_rank_14 (by decide) ?_
    obtain ⟨r_15, hq_15, hF⟩ := bn_i hF
    refine cr_V (As := [.int p1, .int (0 : Int32)]) (rest := []) ⟨hx, hb, hml, hown, hts⟩ (c_X8_lower l D y fl a_t a_t_now a_t_tried a_t_kept a_t_saved a_t_line a_t_text a_t_told a_t_way t_undos t_isSaved t_lined t_length t_at t_order t_fault t_reason t_detail t_index t_answer (0 : Int32) t_went t_fell t_now p1 (0 : Int32) r_15 hq_15) (cwV 2 hts gX8_rank_X8_lower rfl rfl rfl (by decide +kernel) ⟨Nat.le_of_ble_eq_true rfl, Nat.le_of_ble_eq_true rfl⟩) hK hP [0, 1] rfl rfl rfl rfl hl.1 rfl (Nat.le_of_ble_eq_true rfl) dX8_rank_15 ⟨Nat.le_of_ble_eq_true rfl, Nat.le_of_ble_eq_true rfl⟩ ?_
    refine lv_goto (tgt := 26) hx hb dX8_rank_18 (by decide) ?_
    obtain ⟨e0_26, e1_26⟩ := inj2 hF
    rw [← e0_26, ← e1_26] at hQ0
    rw [hQ0]
    exact ret_i hx hb hr hlocks hAe hK hP hD hS [0, 1] rfl rfl dX8_rank_26
def F_X8_rankAgain (fl : Nat) (t_thrown : Int32) (t_now : Nat → Int32) (p1 : Int32) : Option (Int32 × Int32) := bn2 (F_X8_rank fl t_thrown t_now p1) fun r_2 t_thrown_2 => some (r_2, t_thrown_2)
set_option maxHeartbeats 4000000 in
set_option maxRecDepth 100000 in
theorem c_X8_rankAgain (l : Launch) (D : va_G) (y : Nat → ClassId) (fl : Nat) (sz : Nat) (a_t : Nat) (a_t_now : Nat) (a_t_tried : Nat) (a_t_kept : Nat) (a_t_saved : Nat) (a_t_line : Nat) (a_t_text : Nat) (a_t_told : Nat) (a_t_way : Nat) (t_undos : Int32) (t_isSaved : Int32) (t_lined : Int32) (t_length : Int32) (t_at : Int32) (t_order : Int32) (t_fault : Int32) (t_reason : Int32) (t_detail : Int32) (t_index : Int32) (t_answer : Int32) (t_thrown : Int32) (t_went : Int32) (t_fell : Int32) (t_now : Nat → Int32) (p1 : Int32) (r : Int32) (t_thrown' : Int32) (hF : F_X8_rankAgain fl t_thrown t_now p1 = some (r, t_thrown')) : Met l yX8_rankAgain wsX8_rankAgain (rmq 3 65) (wrP D y [(a_t, .inr (12, [.ref a_t_now, .ref a_t_tried, .ref a_t_kept, .int t_undos, .ref a_t_saved, .int t_isSaved, .ref a_t_line, .int t_lined, .ref a_t_text, .int t_length, .int t_at, .int t_order, .ref a_t_told, .int t_fault, .int t_reason, .int t_detail, .int t_index, .int t_answer, .int t_thrown, .ref a_t_way, .int t_went, .int t_fell])), (a_t_now, .inl (y 0, 77, .inl t_now))] sz [.ref a_t, .int p1]) (wQi D y r [(a_t, .inr (12, [.ref a_t_now, .ref a_t_tried, .ref a_t_kept, .int t_undos, .ref a_t_saved, .int t_isSaved, .ref a_t_line, .int t_lined, .ref a_t_text, .int t_length, .int t_at, .int t_order, .ref a_t_told, .int t_fault, .int t_reason, .int t_detail, .int t_index, .int t_answer, .int t_thrown', .ref a_t_way, .int t_went, .int t_fell])), (a_t_now, .inl (y 0, 77, .inl t_now))] [(a_t, .inr (12, [.ref a_t_now, .ref a_t_tried, .ref a_t_kept, .int t_undos, .ref a_t_saved, .int t_isSaved, .ref a_t_line, .int t_lined, .ref a_t_text, .int t_length, .int t_at, .int t_order, .ref a_t_told, .int t_fault, .int t_reason, .int t_detail, .int t_index, .int t_answer, .int t_thrown, .ref a_t_way, .int t_went, .int t_fell])), (a_t_now, .inl (y 0, 77, .inl t_now))] sz) 0 0 (va_A [(a_t, .inr (12, [.ref a_t_now, .ref a_t_tried, .ref a_t_kept, .int t_undos, .ref a_t_saved, .int t_isSaved, .ref a_t_line, .int t_lined, .ref a_t_text, .int t_length, .int t_at, .int t_order, .ref a_t_told, .int t_fault, .int t_reason, .int t_detail, .int t_index, .int t_answer, .int t_thrown, .ref a_t_way, .int t_went, .int t_fell])), (a_t_now, .inl (y 0, 77, .inl t_now))] sz) := by
  refine Met.ofW (cc := cX8_rankAgain) (maxL := 2) (ret := (some .int)) (by decide) rfl ?_
  intro p e s m args below meth c s₁ B hml hv
  obtain ⟨hav, hsz, hP, hK, hD0⟩ := hv
  have hx := B.exec
  have hb := B.bytes
  have hr := B.returns
  have hts := atoms_spec (ws := wsX8_rankAgain) B.pre
  have hown : s.vm.findClass RX8 = some m.cls := findClass_of_methodNamed B.named
  have hlocks := B.notSynchronized
  subst hsz
  have hD := hD0.self (sz := s.heap.size)
  obtain ⟨A, hAe⟩ : ∃ A : Nat → Prop, va_A [(a_t, .inr (12, [.ref a_t_now, .ref a_t_tried, .ref a_t_kept, .int t_undos, .ref a_t_saved, .int t_isSaved, .ref a_t_line, .int t_lined, .ref a_t_text, .int t_length, .int t_at, .int t_order, .ref a_t_told, .int t_fault, .int t_reason, .int t_detail, .int t_index, .int t_answer, .int t_thrown, .ref a_t_way, .int t_went, .int t_fell])), (a_t_now, .inl (y 0, 77, .inl t_now))] s.heap.size = A := ⟨_, rfl⟩
  rw [hAe] at hD
  have hA : ∀ q, s.heap.size ≤ q → A q := fun q h => by rw [← hAe]; exact Or.inr h
  have hS : va_S A s.heap s.heap [] := va_S.rf
  refine W_q (R1 := (rmq 3 65)) rfl (fun Q0 hQ0 => ?_)
  unfold F_X8_rankAgain at hF
  refine W_entry hav (Nat.le_of_ble_eq_true rfl) (fun ls hl => ?_)
  have hl : lv_has ls 2 [(0, .ref a_t), (1, .int p1)] := hl
  refine lv_aload_n hx hb dX8_rankAgain_0 rfl (lv_at hl 0 rfl) ?_
  refine lv_iload_n hx hb dX8_rankAgain_1 rfl (lv_at hl 1 rfl) ?_
  obtain ⟨r_2, t_thrown_2, hq_2, hF⟩ := bn2_i hF
  refine cm_Vi (As := [.int p1]) (rest := []) (wr := []) ⟨hx, hb, hml, hown, hts⟩ (c_X8_rank l D y fl s.heap.size a_t a_t_now a_t_tried a_t_kept a_t_saved a_t_line a_t_text a_t_told a_t_way t_undos t_isSaved t_lined t_length t_at t_order t_fault t_reason t_detail t_index t_answer t_thrown t_went t_fell t_now p1 r_2 t_thrown_2 hq_2) (cwV 1 hts gX8_rankAgain_X8_rank rfl rfl rfl (by decide +kernel) ⟨Nat.le_of_ble_eq_true rfl, Nat.le_of_ble_eq_true rfl⟩) hK hP hD hS hA [0, 1] [] rfl rfl rfl rfl (by decide) rfl rfl rfl hl.1 rfl (Nat.le_of_ble_eq_true rfl) dX8_rankAgain_2 ⟨Nat.le_of_ble_eq_true rfl, Nat.le_of_ble_eq_true rfl⟩ (fun H locs hP hD hS => ?_)
  have hP : va_P D vwCl [(a_t, .inr (12, [.ref a_t_now, .ref a_t_tried, .ref a_t_kept, .int t_undos, .ref a_t_saved, .int t_isSaved, .ref a_t_line, .int t_lined, .ref a_t_text, .int t_length, .int t_at, .int t_order, .ref a_t_told, .int t_fault, .int t_reason, .int t_detail, .int t_index, .int t_answer, .int t_thrown_2, .ref a_t_way, .int t_went, .int t_fell])), (a_t_now, .inl (y 0, 77, .inl t_now))] H := hP
  have hD : va_D A [(a_t, .inr (12, [.ref a_t_now, .ref a_t_tried, .ref a_t_kept, .int t_undos, .ref a_t_saved, .int t_isSaved, .ref a_t_line, .int t_lined, .ref a_t_text, .int t_length, .int t_at, .int t_order, .ref a_t_told, .int t_fault, .int t_reason, .int t_detail, .int t_index, .int t_answer, .int t_thrown_2, .ref a_t_way, .int t_went, .int t_fell])), (a_t_now, .inl (y 0, 77, .inl t_now))] := hD
  obtain ⟨e0_5, e1_5⟩ := inj2 hF
  rw [← e0_5, ← e1_5] at hQ0
  rw [hQ0]
  exact ret_i hx hb hr hlocks hAe hK hP hD hS [0, 1] rfl rfl dX8_rankAgain_5
def F_X8_keyAt (fl : Nat) (t_thrown : Int32) (t_now : Nat → Int32) (p1 : Int32) : Option (Int32 × Int32) := gi (0 : Int32) 77 (bn (F_X8_in fl p1 (0 : Int32) ((t_now (0 : Int32).toNatClampNeg) - (1 : Int32))) fun r_15 => if r_15 = 0 then (bn2 (F_X8_raises fl (0 : Int32) (1 : Int32)) fun r_31 t_thrown_31 => some (r_31, t_thrown_31)) else (bn (F_X8_key fl t_now p1) fun r_23 => some (r_23, (0 : Int32))))
theorem iX8_keyAt_X8 : ∀ w ∈ u_ws RX8 TX8 22, w ∈ wsX8_keyAt := fun w h => List.mem_cons_of_mem _ (List.mem_append_left _ (List.mem_append_right _ h))
set_option maxHeartbeats 4000000 in
set_option maxRecDepth 100000 in
theorem c_X8_keyAt (l : Launch) (D : va_G) (y : Nat → ClassId) (fl : Nat) (sz : Nat) (a_t : Nat) (a_t_now : Nat) (a_t_tried : Nat) (a_t_kept : Nat) (a_t_saved : Nat) (a_t_line : Nat) (a_t_text : Nat) (a_t_told : Nat) (a_t_way : Nat) (t_undos : Int32) (t_isSaved : Int32) (t_lined : Int32) (t_length : Int32) (t_at : Int32) (t_order : Int32) (t_fault : Int32) (t_reason : Int32) (t_detail : Int32) (t_index : Int32) (t_answer : Int32) (t_thrown : Int32) (t_went : Int32) (t_fell : Int32) (t_now : Nat → Int32) (p1 : Int32) (r : Int32) (t_thrown' : Int32) (hF : F_X8_keyAt fl t_thrown t_now p1 = some (r, t_thrown')) : Met l yX8_keyAt wsX8_keyAt (rmq 1 22) (wrP D y [(a_t, .inr (12, [.ref a_t_now, .ref a_t_tried, .ref a_t_kept, .int t_undos, .ref a_t_saved, .int t_isSaved, .ref a_t_line, .int t_lined, .ref a_t_text, .int t_length, .int t_at, .int t_order, .ref a_t_told, .int t_fault, .int t_reason, .int t_detail, .int t_index, .int t_answer, .int t_thrown, .ref a_t_way, .int t_went, .int t_fell])), (a_t_now, .inl (y 0, 77, .inl t_now))] sz [.ref a_t, .int p1]) (wQi D y r [(a_t, .inr (12, [.ref a_t_now, .ref a_t_tried, .ref a_t_kept, .int t_undos, .ref a_t_saved, .int t_isSaved, .ref a_t_line, .int t_lined, .ref a_t_text, .int t_length, .int t_at, .int t_order, .ref a_t_told, .int t_fault, .int t_reason, .int t_detail, .int t_index, .int t_answer, .int t_thrown', .ref a_t_way, .int t_went, .int t_fell])), (a_t_now, .inl (y 0, 77, .inl t_now))] [(a_t, .inr (12, [.ref a_t_now, .ref a_t_tried, .ref a_t_kept, .int t_undos, .ref a_t_saved, .int t_isSaved, .ref a_t_line, .int t_lined, .ref a_t_text, .int t_length, .int t_at, .int t_order, .ref a_t_told, .int t_fault, .int t_reason, .int t_detail, .int t_index, .int t_answer, .int t_thrown, .ref a_t_way, .int t_went, .int t_fell])), (a_t_now, .inl (y 0, 77, .inl t_now))] sz) 0 0 (va_A [(a_t, .inr (12, [.ref a_t_now, .ref a_t_tried, .ref a_t_kept, .int t_undos, .ref a_t_saved, .int t_isSaved, .ref a_t_line, .int t_lined, .ref a_t_text, .int t_length, .int t_at, .int t_order, .ref a_t_told, .int t_fault, .int t_reason, .int t_detail, .int t_index, .int t_answer, .int t_thrown, .ref a_t_way, .int t_went, .int t_fell])), (a_t_now, .inl (y 0, 77, .inl t_now))] sz) := by
  refine Met.ofW (cc := cX8_keyAt) (maxL := 2) (ret := (some .int)) (by decide) rfl ?_
  intro p e s m args below meth c s₁ B hml hv
  obtain ⟨hav, hsz, hP, hK, hD0⟩ := hv
  have hx := B.exec
  have hb := B.bytes
  have hr := B.returns
  have hts := atoms_spec (ws := wsX8_keyAt) B.pre
  have hown : s.vm.findClass RX8 = some m.cls := findClass_of_methodNamed B.named
  have hlocks := B.notSynchronized
  subst hsz
  have hD := hD0.self (sz := s.heap.size)
  obtain ⟨A, hAe⟩ : ∃ A : Nat → Prop, va_A [(a_t, .inr (12, [.ref a_t_now, .ref a_t_tried, .ref a_t_kept, .int t_undos, .ref a_t_saved, .int t_isSaved, .ref a_t_line, .int t_lined, .ref a_t_text, .int t_length, .int t_at, .int t_order, .ref a_t_told, .int t_fault, .int t_reason, .int t_detail, .int t_index, .int t_answer, .int t_thrown, .ref a_t_way, .int t_went, .int t_fell])), (a_t_now, .inl (y 0, 77, .inl t_now))] s.heap.size = A := ⟨_, rfl⟩
  rw [hAe] at hD
  have hA : ∀ q, s.heap.size ≤ q → A q := fun q h => by rw [← hAe]; exact Or.inr h
  have hS : va_S A s.heap s.heap [] := va_S.rf
  refine W_q (R1 := (rmq 1 22)) rfl (fun Q0 hQ0 => ?_)
  unfold F_X8_keyAt at hF
  refine W_entry hav (Nat.le_of_ble_eq_true rfl) (fun ls hl => ?_)
  have hl : lv_has ls 2 [(0, .ref a_t), (1, .int p1)] := hl
  refine lv_aload_n hx hb dX8_keyAt_0 rfl (lv_at hl 0 rfl) ?_
  refine lv_iconst (v := 0) hx hb dX8_keyAt_1 (by decide) ?_
  refine va_put (D := D) (ci := 12) (v := .int (0 : Int32)) (ty := .int) (C := RX8) (T := TX8) (N := 22) hx hb hts iX8_keyAt_X8 tyX8 tyX8_ok nmX8 hown hK hP hD hS 0 rfl rfl 18 (by decide) (hts (.fieldLink RX8 39 "SkipArchiveModel" "thrown" "I") (List.mem_of_getElem? (i := 1) rfl)) (fun _ h9 => h9) rfl (by decide +kernel) rfl rfl (Nat.le_of_ble_eq_true rfl) dX8_keyAt_2 (fun H locs hP hD hS => ?_)
  have hP : va_P D vwCl [(a_t, .inr (12, [.ref a_t_now, .ref a_t_tried, .ref a_t_kept, .int t_undos, .ref a_t_saved, .int t_isSaved, .ref a_t_line, .int t_lined, .ref a_t_text, .int t_length, .int t_at, .int t_order, .ref a_t_told, .int t_fault, .int t_reason, .int t_detail, .int t_index, .int t_answer, .int (0 : Int32), .ref a_t_way, .int t_went, .int t_fell])), (a_t_now, .inl (y 0, 77, .inl t_now))] H := hP
  have hD : va_D A [(a_t, .inr (12, [.ref a_t_now, .ref a_t_tried, .ref a_t_kept, .int t_undos, .ref a_t_saved, .int t_isSaved, .ref a_t_line, .int t_lined, .ref a_t_text, .int t_length, .int t_at, .int t_order, .ref a_t_told, .int t_fault, .int t_reason, .int t_detail, .int t_index, .int t_answer, .int (0 : Int32), .ref a_t_way, .int t_went, .int t_fell])), (a_t_now, .inl (y 0, 77, .inl t_now))] := hD
  refine lv_iload_n hx hb dX8_keyAt_5 rfl (lv_at hl 1 rfl) ?_
  refine lv_iconst (v := 0) hx hb dX8_keyAt_6 (by decide) ?_
  refine lv_aload_n hx hb dX8_keyAt_7 rfl (lv_at hl 0 rfl) ?_
  refine va_get (D := D) (ci := 12) (v := .ref a_t_now) (C := RX8) (T := TX8) (N := 22) hx hb hts iX8_keyAt_X8 hown hK hP 0 rfl rfl 0 (by decide) (hts (.fieldLink RX8 9 "SkipArchiveModel" "now" "[I") (List.mem_of_getElem? (i := 2) rfl)) (fun _ h9 => h9) rfl dX8_keyAt_8 ?_
  refine lv_iconst (v := 0) hx hb dX8_keyAt_11 (by decide) ?_
  obtain ⟨g_12, hF⟩ := gi_i hF
  refine va_iald hx hb hK hP 1 0 rfl rfl g_12 dX8_keyAt_12 ?_
  refine lv_iconst (v := 1) hx hb dX8_keyAt_13 (by decide) ?_
  refine lv_isub hx hb dX8_keyAt_14 ?_
  obtain ⟨r_15, hq_15, hF⟩ := bn_i hF
  refine cr_S (As := [.int p1, .int (0 : Int32), .int ((t_now (0 : Int32).toNatClampNeg) - (1 : Int32))]) (rest := []) ⟨hx, hb, hml, hown, hts⟩ (c_X8_in l D y fl p1 (0 : Int32) ((t_now (0 : Int32).toNatClampNeg) - (1 : Int32)) r_15 hq_15) (va_cwS 3 hts gX8_keyAt_X8_in rfl rfl rfl (by decide +kernel) ⟨Nat.le_of_ble_eq_true rfl, Nat.le_of_ble_eq_true rfl⟩) hK hP [] rfl rfl hl.1 rfl (Nat.le_of_ble_eq_true rfl) dX8_keyAt_15 ⟨Nat.le_of_ble_eq_true rfl, Nat.le_of_ble_eq_true rfl⟩ ?_
  refine lv_if_eq (tgt := 29) hx hb dX8_keyAt_18 (by decide) (fun c_18 => ?_) (fun c_18 => ?_)
  · have hF := ift hF c_18
    refine lv_aload_n hx hb dX8_keyAt_29 rfl (lv_at hl 0 rfl) ?_
    refine lv_iconst (v := 1) hx hb dX8_keyAt_30 (by decide) ?_
    obtain ⟨r_31, t_thrown_31, hq_31, hF⟩ := bn2_i hF
    refine cm_Vi (As := [.int (1 : Int32)]) (rest := []) (wr := [(a_t_now, .inl (y 0, 77, .inl t_now))]) ⟨hx, hb, hml, hown, hts⟩ (c_X8_raises l D y fl H.size a_t a_t_now a_t_tried a_t_kept a_t_saved a_t_line a_t_text a_t_told a_t_way t_undos t_isSaved t_lined t_length t_at t_order t_fault t_reason t_detail t_index t_answer (0 : Int32) t_went t_fell (1 : Int32) r_31 t_thrown_31 hq_31) (cwV 1 hts gX8_keyAt_X8_raises rfl rfl rfl (by decide +kernel) ⟨Nat.le_of_ble_eq_true rfl, Nat.le_of_ble_eq_true rfl⟩) hK hP hD hS hA [0] [1] rfl rfl rfl rfl (by decide) rfl rfl rfl hl.1 rfl (Nat.le_of_ble_eq_true rfl) dX8_keyAt_31 ⟨Nat.le_of_ble_eq_true rfl, Nat.le_of_ble_eq_true rfl⟩ (fun H locs hP hD hS => ?_)
    have hP : va_P D vwCl [(a_t_now, .inl (y 0, 77, .inl t_now)), (a_t, .inr (12, [.ref a_t_now, .ref a_t_tried, .ref a_t_kept, .int t_undos, .ref a_t_saved, .int t_isSaved, .ref a_t_line, .int t_lined, .ref a_t_text, .int t_length, .int t_at, .int t_order, .ref a_t_told, .int t_fault, .int t_reason, .int t_detail, .int t_index, .int t_answer, .int t_thrown_31, .ref a_t_way, .int t_went, .int t_fell]))] H := hP
    have hD : va_D A [(a_t_now, .inl (y 0, 77, .inl t_now)), (a_t, .inr (12, [.ref a_t_now, .ref a_t_tried, .ref a_t_kept, .int t_undos, .ref a_t_saved, .int t_isSaved, .ref a_t_line, .int t_lined, .ref a_t_text, .int t_length, .int t_at, .int t_order, .ref a_t_told, .int t_fault, .int t_reason, .int t_detail, .int t_index, .int t_answer, .int t_thrown_31, .ref a_t_way, .int t_went, .int t_fell]))] := hD
    obtain ⟨e0_34, e1_34⟩ := inj2 hF
    rw [← e0_34, ← e1_34] at hQ0
    rw [hQ0]
    exact ret_i hx hb hr hlocks hAe hK hP hD hS [1, 0] rfl rfl dX8_keyAt_34
  · have hF := iff_ hF c_18
    refine lv_aload_n hx hb dX8_keyAt_21 rfl (lv_at hl 0 rfl) ?_
    refine lv_iload_n hx hb dX8_keyAt_22 rfl (lv_at hl 1 rfl) ?_
    obtain ⟨r_23, hq_23, hF⟩ := bn_i hF
    refine cr_V (As := [.int p1]) (rest := []) ⟨hx, hb, hml, hown, hts⟩ (c_X8_key l D y fl a_t a_t_now a_t_tried a_t_kept a_t_saved a_t_line a_t_text a_t_told a_t_way t_undos t_isSaved t_lined t_length t_at t_order t_fault t_reason t_detail t_index t_answer (0 : Int32) t_went t_fell t_now p1 r_23 hq_23) (cwV 1 hts gX8_keyAt_X8_key rfl rfl rfl (by decide +kernel) ⟨Nat.le_of_ble_eq_true rfl, Nat.le_of_ble_eq_true rfl⟩) hK hP [0, 1] rfl rfl rfl rfl hl.1 rfl (Nat.le_of_ble_eq_true rfl) dX8_keyAt_23 ⟨Nat.le_of_ble_eq_true rfl, Nat.le_of_ble_eq_true rfl⟩ ?_
    refine lv_goto (tgt := 34) hx hb dX8_keyAt_26 (by decide) ?_
    obtain ⟨e0_34, e1_34⟩ := inj2 hF
    rw [← e0_34, ← e1_34] at hQ0
    rw [hQ0]
    exact ret_i hx hb hr hlocks hAe hK hP hD hS [0, 1] rfl rfl dX8_keyAt_34
def F_X8_steps (fl : Nat) (t_thrown : Int32) (t_went : Int32) (t_fell : Int32) (t_now : Nat → Int32) (t_way : Nat → Int32) (p1 : Int32) : Option (Int32 × Int32 × Int32 × Int32 × (Nat → Int32)) := bn (F_X8_isKey fl p1) fun r_6 => if r_6 = 0 then (bn2 (F_X8_raises fl (0 : Int32) (1 : Int32)) fun r_22 t_thrown_22 => some (r_22, t_thrown_22, t_went, t_fell, t_way)) else (bn4 (F_X8_searches fl t_went t_fell t_now t_way p1) fun r_14 t_went_14 t_fell_14 t_way_14 => some (r_14, (0 : Int32), t_went_14, t_fell_14, t_way_14))
theorem iX8_steps_X8 : ∀ w ∈ u_ws RX8 TX8 22, w ∈ wsX8_steps := fun w h => List.mem_cons_of_mem _ (List.mem_append_left _ (List.mem_append_right _ h))
set_option maxHeartbeats 4000000 in
set_option maxRecDepth 100000 in
theorem c_X8_steps (l : Launch) (D : va_G) (y : Nat → ClassId) (fl : Nat) (sz : Nat) (a_t : Nat) (a_t_now : Nat) (a_t_tried : Nat) (a_t_kept : Nat) (a_t_saved : Nat) (a_t_line : Nat) (a_t_text : Nat) (a_t_told : Nat) (a_t_way : Nat) (t_undos : Int32) (t_isSaved : Int32) (t_lined : Int32) (t_length : Int32) (t_at : Int32) (t_order : Int32) (t_fault : Int32) (t_reason : Int32) (t_detail : Int32) (t_index : Int32) (t_answer : Int32) (t_thrown : Int32) (t_went : Int32) (t_fell : Int32) (t_now : Nat → Int32) (t_way : Nat → Int32) (p1 : Int32) (r : Int32) (t_thrown' : Int32) (t_went' : Int32) (t_fell' : Int32) (t_way' : Nat → Int32) (hF : F_X8_steps fl t_thrown t_went t_fell t_now t_way p1 = some (r, t_thrown', t_went', t_fell', t_way')) : Met l yX8_steps wsX8_steps (rmq 4 89) (wrP D y [(a_t, .inr (12, [.ref a_t_now, .ref a_t_tried, .ref a_t_kept, .int t_undos, .ref a_t_saved, .int t_isSaved, .ref a_t_line, .int t_lined, .ref a_t_text, .int t_length, .int t_at, .int t_order, .ref a_t_told, .int t_fault, .int t_reason, .int t_detail, .int t_index, .int t_answer, .int t_thrown, .ref a_t_way, .int t_went, .int t_fell])), (a_t_now, .inl (y 0, 77, .inl t_now)), (a_t_way, .inl (y 0, 24, .inl t_way))] sz [.ref a_t, .int p1]) (wQi D y r [(a_t, .inr (12, [.ref a_t_now, .ref a_t_tried, .ref a_t_kept, .int t_undos, .ref a_t_saved, .int t_isSaved, .ref a_t_line, .int t_lined, .ref a_t_text, .int t_length, .int t_at, .int t_order, .ref a_t_told, .int t_fault, .int t_reason, .int t_detail, .int t_index, .int t_answer, .int t_thrown', .ref a_t_way, .int t_went', .int t_fell'])), (a_t_now, .inl (y 0, 77, .inl t_now)), (a_t_way, .inl (y 0, 24, .inl t_way'))] [(a_t, .inr (12, [.ref a_t_now, .ref a_t_tried, .ref a_t_kept, .int t_undos, .ref a_t_saved, .int t_isSaved, .ref a_t_line, .int t_lined, .ref a_t_text, .int t_length, .int t_at, .int t_order, .ref a_t_told, .int t_fault, .int t_reason, .int t_detail, .int t_index, .int t_answer, .int t_thrown, .ref a_t_way, .int t_went, .int t_fell])), (a_t_now, .inl (y 0, 77, .inl t_now)), (a_t_way, .inl (y 0, 24, .inl t_way))] sz) 0 0 (va_A [(a_t, .inr (12, [.ref a_t_now, .ref a_t_tried, .ref a_t_kept, .int t_undos, .ref a_t_saved, .int t_isSaved, .ref a_t_line, .int t_lined, .ref a_t_text, .int t_length, .int t_at, .int t_order, .ref a_t_told, .int t_fault, .int t_reason, .int t_detail, .int t_index, .int t_answer, .int t_thrown, .ref a_t_way, .int t_went, .int t_fell])), (a_t_now, .inl (y 0, 77, .inl t_now)), (a_t_way, .inl (y 0, 24, .inl t_way))] sz) := by
  refine Met.ofW (cc := cX8_steps) (maxL := 2) (ret := (some .int)) (by decide) rfl ?_
  intro p e s m args below meth c s₁ B hml hv
  obtain ⟨hav, hsz, hP, hK, hD0⟩ := hv
  have hx := B.exec
  have hb := B.bytes
  have hr := B.returns
  have hts := atoms_spec (ws := wsX8_steps) B.pre
  have hown : s.vm.findClass RX8 = some m.cls := findClass_of_methodNamed B.named
  have hlocks := B.notSynchronized
  subst hsz
  have hD := hD0.self (sz := s.heap.size)
  obtain ⟨A, hAe⟩ : ∃ A : Nat → Prop, va_A [(a_t, .inr (12, [.ref a_t_now, .ref a_t_tried, .ref a_t_kept, .int t_undos, .ref a_t_saved, .int t_isSaved, .ref a_t_line, .int t_lined, .ref a_t_text, .int t_length, .int t_at, .int t_order, .ref a_t_told, .int t_fault, .int t_reason, .int t_detail, .int t_index, .int t_answer, .int t_thrown, .ref a_t_way, .int t_went, .int t_fell])), (a_t_now, .inl (y 0, 77, .inl t_now)), (a_t_way, .inl (y 0, 24, .inl t_way))] s.heap.size = A := ⟨_, rfl⟩
  rw [hAe] at hD
  have hA : ∀ q, s.heap.size ≤ q → A q := fun q h => by rw [← hAe]; exact Or.inr h
  have hS : va_S A s.heap s.heap [] := va_S.rf
  refine W_q (R1 := (rmq 4 89)) rfl (fun Q0 hQ0 => ?_)
  unfold F_X8_steps at hF
  refine W_entry hav (Nat.le_of_ble_eq_true rfl) (fun ls hl => ?_)
  have hl : lv_has ls 2 [(0, .ref a_t), (1, .int p1)] := hl
  refine lv_aload_n hx hb dX8_steps_0 rfl (lv_at hl 0 rfl) ?_
  refine lv_iconst (v := 0) hx hb dX8_steps_1 (by decide) ?_
  refine va_put (D := D) (ci := 12) (v := .int (0 : Int32)) (ty := .int) (C := RX8) (T := TX8) (N := 22) hx hb hts iX8_steps_X8 tyX8 tyX8_ok nmX8 hown hK hP hD hS 0 rfl rfl 18 (by decide) (hts (.fieldLink RX8 39 "SkipArchiveModel" "thrown" "I") (List.mem_of_getElem? (i := 1) rfl)) (fun _ h9 => h9) rfl (by decide +kernel) rfl rfl (Nat.le_of_ble_eq_true rfl) dX8_steps_2 (fun H locs hP hD hS => ?_)
  have hP : va_P D vwCl [(a_t, .inr (12, [.ref a_t_now, .ref a_t_tried, .ref a_t_kept, .int t_undos, .ref a_t_saved, .int t_isSaved, .ref a_t_line, .int t_lined, .ref a_t_text, .int t_length, .int t_at, .int t_order, .ref a_t_told, .int t_fault, .int t_reason, .int t_detail, .int t_index, .int t_answer, .int (0 : Int32), .ref a_t_way, .int t_went, .int t_fell])), (a_t_now, .inl (y 0, 77, .inl t_now)), (a_t_way, .inl (y 0, 24, .inl t_way))] H := hP
  have hD : va_D A [(a_t, .inr (12, [.ref a_t_now, .ref a_t_tried, .ref a_t_kept, .int t_undos, .ref a_t_saved, .int t_isSaved, .ref a_t_line, .int t_lined, .ref a_t_text, .int t_length, .int t_at, .int t_order, .ref a_t_told, .int t_fault, .int t_reason, .int t_detail, .int t_index, .int t_answer, .int (0 : Int32), .ref a_t_way, .int t_went, .int t_fell])), (a_t_now, .inl (y 0, 77, .inl t_now)), (a_t_way, .inl (y 0, 24, .inl t_way))] := hD
  refine lv_iload_n hx hb dX8_steps_5 rfl (lv_at hl 1 rfl) ?_
  obtain ⟨r_6, hq_6, hF⟩ := bn_i hF
  refine cr_S (As := [.int p1]) (rest := []) ⟨hx, hb, hml, hown, hts⟩ (c_X8_isKey l D y fl p1 r_6 hq_6) (va_cwS 1 hts gX8_steps_X8_isKey rfl rfl rfl (by decide +kernel) ⟨Nat.le_of_ble_eq_true rfl, Nat.le_of_ble_eq_true rfl⟩) hK hP [] rfl rfl hl.1 rfl (Nat.le_of_ble_eq_true rfl) dX8_steps_6 ⟨Nat.le_of_ble_eq_true rfl, Nat.le_of_ble_eq_true rfl⟩ ?_
  refine lv_if_eq (tgt := 20) hx hb dX8_steps_9 (by decide) (fun c_9 => ?_) (fun c_9 => ?_)
  · have hF := ift hF c_9
    refine lv_aload_n hx hb dX8_steps_20 rfl (lv_at hl 0 rfl) ?_
    refine lv_iconst (v := 1) hx hb dX8_steps_21 (by decide) ?_
    obtain ⟨r_22, t_thrown_22, hq_22, hF⟩ := bn2_i hF
    refine cm_Vi (As := [.int (1 : Int32)]) (rest := []) (wr := [(a_t_now, .inl (y 0, 77, .inl t_now)), (a_t_way, .inl (y 0, 24, .inl t_way))]) ⟨hx, hb, hml, hown, hts⟩ (c_X8_raises l D y fl H.size a_t a_t_now a_t_tried a_t_kept a_t_saved a_t_line a_t_text a_t_told a_t_way t_undos t_isSaved t_lined t_length t_at t_order t_fault t_reason t_detail t_index t_answer (0 : Int32) t_went t_fell (1 : Int32) r_22 t_thrown_22 hq_22) (cwV 1 hts gX8_steps_X8_raises rfl rfl rfl (by decide +kernel) ⟨Nat.le_of_ble_eq_true rfl, Nat.le_of_ble_eq_true rfl⟩) hK hP hD hS hA [0] [1, 2] rfl rfl rfl rfl (by decide) rfl rfl rfl hl.1 rfl (Nat.le_of_ble_eq_true rfl) dX8_steps_22 ⟨Nat.le_of_ble_eq_true rfl, Nat.le_of_ble_eq_true rfl⟩ (fun H locs hP hD hS => ?_)
    have hP : va_P D vwCl [(a_t_now, .inl (y 0, 77, .inl t_now)), (a_t_way, .inl (y 0, 24, .inl t_way)), (a_t, .inr (12, [.ref a_t_now, .ref a_t_tried, .ref a_t_kept, .int t_undos, .ref a_t_saved, .int t_isSaved, .ref a_t_line, .int t_lined, .ref a_t_text, .int t_length, .int t_at, .int t_order, .ref a_t_told, .int t_fault, .int t_reason, .int t_detail, .int t_index, .int t_answer, .int t_thrown_22, .ref a_t_way, .int t_went, .int t_fell]))] H := hP
    have hD : va_D A [(a_t_now, .inl (y 0, 77, .inl t_now)), (a_t_way, .inl (y 0, 24, .inl t_way)), (a_t, .inr (12, [.ref a_t_now, .ref a_t_tried, .ref a_t_kept, .int t_undos, .ref a_t_saved, .int t_isSaved, .ref a_t_line, .int t_lined, .ref a_t_text, .int t_length, .int t_at, .int t_order, .ref a_t_told, .int t_fault, .int t_reason, .int t_detail, .int t_index, .int t_answer, .int t_thrown_22, .ref a_t_way, .int t_went, .int t_fell]))] := hD
    obtain ⟨e0_25, e1_25, e2_25, e3_25, e4_25⟩ := inj5 hF
    rw [← e0_25, ← e1_25, ← e2_25, ← e3_25, ← e4_25] at hQ0
    rw [hQ0]
    exact ret_i hx hb hr hlocks hAe hK hP hD hS [2, 0, 1] rfl rfl dX8_steps_25
  · have hF := iff_ hF c_9
    refine lv_aload_n hx hb dX8_steps_12 rfl (lv_at hl 0 rfl) ?_
    refine lv_iload_n hx hb dX8_steps_13 rfl (lv_at hl 1 rfl) ?_
    obtain ⟨r_14, t_went_14, t_fell_14, t_way_14, hq_14, hF⟩ := bn4_i hF
    refine cm_Vi (As := [.int p1]) (rest := []) (wr := []) ⟨hx, hb, hml, hown, hts⟩ (c_X8_searches l D y fl H.size a_t a_t_now a_t_tried a_t_kept a_t_saved a_t_line a_t_text a_t_told a_t_way t_undos t_isSaved t_lined t_length t_at t_order t_fault t_reason t_detail t_index t_answer (0 : Int32) t_went t_fell t_now t_way p1 r_14 t_went_14 t_fell_14 t_way_14 hq_14) (cwV 1 hts gX8_steps_X8_searches rfl rfl rfl (by decide +kernel) ⟨Nat.le_of_ble_eq_true rfl, Nat.le_of_ble_eq_true rfl⟩) hK hP hD hS hA [0, 1, 2] [] rfl rfl rfl rfl (by decide) rfl rfl rfl hl.1 rfl (Nat.le_of_ble_eq_true rfl) dX8_steps_14 ⟨Nat.le_of_ble_eq_true rfl, Nat.le_of_ble_eq_true rfl⟩ (fun H locs hP hD hS => ?_)
    have hP : va_P D vwCl [(a_t, .inr (12, [.ref a_t_now, .ref a_t_tried, .ref a_t_kept, .int t_undos, .ref a_t_saved, .int t_isSaved, .ref a_t_line, .int t_lined, .ref a_t_text, .int t_length, .int t_at, .int t_order, .ref a_t_told, .int t_fault, .int t_reason, .int t_detail, .int t_index, .int t_answer, .int (0 : Int32), .ref a_t_way, .int t_went_14, .int t_fell_14])), (a_t_now, .inl (y 0, 77, .inl t_now)), (a_t_way, .inl (y 0, 24, .inl t_way_14))] H := hP
    have hD : va_D A [(a_t, .inr (12, [.ref a_t_now, .ref a_t_tried, .ref a_t_kept, .int t_undos, .ref a_t_saved, .int t_isSaved, .ref a_t_line, .int t_lined, .ref a_t_text, .int t_length, .int t_at, .int t_order, .ref a_t_told, .int t_fault, .int t_reason, .int t_detail, .int t_index, .int t_answer, .int (0 : Int32), .ref a_t_way, .int t_went_14, .int t_fell_14])), (a_t_now, .inl (y 0, 77, .inl t_now)), (a_t_way, .inl (y 0, 24, .inl t_way_14))] := hD
    refine lv_goto (tgt := 25) hx hb dX8_steps_17 (by decide) ?_
    obtain ⟨e0_25, e1_25, e2_25, e3_25, e4_25⟩ := inj5 hF
    rw [← e0_25, ← e1_25, ← e2_25, ← e3_25, ← e4_25] at hQ0
    rw [hQ0]
    exact ret_i hx hb hr hlocks hAe hK hP hD hS [0, 1, 2] rfl rfl dX8_steps_25
def F_X8_stepsAgain (fl : Nat) (t_thrown : Int32) (t_went : Int32) (t_fell : Int32) (t_now : Nat → Int32) (t_way : Nat → Int32) (p1 : Int32) : Option (Int32 × Int32 × Int32 × Int32 × (Nat → Int32)) := bn5 (F_X8_steps fl t_thrown t_went t_fell t_now t_way p1) fun r_2 t_thrown_2 t_went_2 t_fell_2 t_way_2 => some (r_2, t_thrown_2, t_went_2, t_fell_2, t_way_2)
set_option maxHeartbeats 4000000 in
set_option maxRecDepth 100000 in
theorem c_X8_stepsAgain (l : Launch) (D : va_G) (y : Nat → ClassId) (fl : Nat) (sz : Nat) (a_t : Nat) (a_t_now : Nat) (a_t_tried : Nat) (a_t_kept : Nat) (a_t_saved : Nat) (a_t_line : Nat) (a_t_text : Nat) (a_t_told : Nat) (a_t_way : Nat) (t_undos : Int32) (t_isSaved : Int32) (t_lined : Int32) (t_length : Int32) (t_at : Int32) (t_order : Int32) (t_fault : Int32) (t_reason : Int32) (t_detail : Int32) (t_index : Int32) (t_answer : Int32) (t_thrown : Int32) (t_went : Int32) (t_fell : Int32) (t_now : Nat → Int32) (t_way : Nat → Int32) (p1 : Int32) (r : Int32) (t_thrown' : Int32) (t_went' : Int32) (t_fell' : Int32) (t_way' : Nat → Int32) (hF : F_X8_stepsAgain fl t_thrown t_went t_fell t_now t_way p1 = some (r, t_thrown', t_went', t_fell', t_way')) : Met l yX8_stepsAgain wsX8_stepsAgain (rmq 5 110) (wrP D y [(a_t, .inr (12, [.ref a_t_now, .ref a_t_tried, .ref a_t_kept, .int t_undos, .ref a_t_saved, .int t_isSaved, .ref a_t_line, .int t_lined, .ref a_t_text, .int t_length, .int t_at, .int t_order, .ref a_t_told, .int t_fault, .int t_reason, .int t_detail, .int t_index, .int t_answer, .int t_thrown, .ref a_t_way, .int t_went, .int t_fell])), (a_t_now, .inl (y 0, 77, .inl t_now)), (a_t_way, .inl (y 0, 24, .inl t_way))] sz [.ref a_t, .int p1]) (wQi D y r [(a_t, .inr (12, [.ref a_t_now, .ref a_t_tried, .ref a_t_kept, .int t_undos, .ref a_t_saved, .int t_isSaved, .ref a_t_line, .int t_lined, .ref a_t_text, .int t_length, .int t_at, .int t_order, .ref a_t_told, .int t_fault, .int t_reason, .int t_detail, .int t_index, .int t_answer, .int t_thrown', .ref a_t_way, .int t_went', .int t_fell'])), (a_t_now, .inl (y 0, 77, .inl t_now)), (a_t_way, .inl (y 0, 24, .inl t_way'))] [(a_t, .inr (12, [.ref a_t_now, .ref a_t_tried, .ref a_t_kept, .int t_undos, .ref a_t_saved, .int t_isSaved, .ref a_t_line, .int t_lined, .ref a_t_text, .int t_length, .int t_at, .int t_order, .ref a_t_told, .int t_fault, .int t_reason, .int t_detail, .int t_index, .int t_answer, .int t_thrown, .ref a_t_way, .int t_went, .int t_fell])), (a_t_now, .inl (y 0, 77, .inl t_now)), (a_t_way, .inl (y 0, 24, .inl t_way))] sz) 0 0 (va_A [(a_t, .inr (12, [.ref a_t_now, .ref a_t_tried, .ref a_t_kept, .int t_undos, .ref a_t_saved, .int t_isSaved, .ref a_t_line, .int t_lined, .ref a_t_text, .int t_length, .int t_at, .int t_order, .ref a_t_told, .int t_fault, .int t_reason, .int t_detail, .int t_index, .int t_answer, .int t_thrown, .ref a_t_way, .int t_went, .int t_fell])), (a_t_now, .inl (y 0, 77, .inl t_now)), (a_t_way, .inl (y 0, 24, .inl t_way))] sz) := by
  refine Met.ofW (cc := cX8_stepsAgain) (maxL := 2) (ret := (some .int)) (by decide) rfl ?_
  intro p e s m args below meth c s₁ B hml hv
  obtain ⟨hav, hsz, hP, hK, hD0⟩ := hv
  have hx := B.exec
  have hb := B.bytes
  have hr := B.returns
  have hts := atoms_spec (ws := wsX8_stepsAgain) B.pre
  have hown : s.vm.findClass RX8 = some m.cls := findClass_of_methodNamed B.named
  have hlocks := B.notSynchronized
  subst hsz
  have hD := hD0.self (sz := s.heap.size)
  obtain ⟨A, hAe⟩ : ∃ A : Nat → Prop, va_A [(a_t, .inr (12, [.ref a_t_now, .ref a_t_tried, .ref a_t_kept, .int t_undos, .ref a_t_saved, .int t_isSaved, .ref a_t_line, .int t_lined, .ref a_t_text, .int t_length, .int t_at, .int t_order, .ref a_t_told, .int t_fault, .int t_reason, .int t_detail, .int t_index, .int t_answer, .int t_thrown, .ref a_t_way, .int t_went, .int t_fell])), (a_t_now, .inl (y 0, 77, .inl t_now)), (a_t_way, .inl (y 0, 24, .inl t_way))] s.heap.size = A := ⟨_, rfl⟩
  rw [hAe] at hD
  have hA : ∀ q, s.heap.size ≤ q → A q := fun q h => by rw [← hAe]; exact Or.inr h
  have hS : va_S A s.heap s.heap [] := va_S.rf
  refine W_q (R1 := (rmq 5 110)) rfl (fun Q0 hQ0 => ?_)
  unfold F_X8_stepsAgain at hF
  refine W_entry hav (Nat.le_of_ble_eq_true rfl) (fun ls hl => ?_)
  have hl : lv_has ls 2 [(0, .ref a_t), (1, .int p1)] := hl
  refine lv_aload_n hx hb dX8_stepsAgain_0 rfl (lv_at hl 0 rfl) ?_
  refine lv_iload_n hx hb dX8_stepsAgain_1 rfl (lv_at hl 1 rfl) ?_
  obtain ⟨r_2, t_thrown_2, t_went_2, t_fell_2, t_way_2, hq_2, hF⟩ := bn5_i hF
  refine cm_Vi (As := [.int p1]) (rest := []) (wr := []) ⟨hx, hb, hml, hown, hts⟩ (c_X8_steps l D y fl s.heap.size a_t a_t_now a_t_tried a_t_kept a_t_saved a_t_line a_t_text a_t_told a_t_way t_undos t_isSaved t_lined t_length t_at t_order t_fault t_reason t_detail t_index t_answer t_thrown t_went t_fell t_now t_way p1 r_2 t_thrown_2 t_went_2 t_fell_2 t_way_2 hq_2) (cwV 1 hts gX8_stepsAgain_X8_steps rfl rfl rfl (by decide +kernel) ⟨Nat.le_of_ble_eq_true rfl, Nat.le_of_ble_eq_true rfl⟩) hK hP hD hS hA [0, 1, 2] [] rfl rfl rfl rfl (by decide) rfl rfl rfl hl.1 rfl (Nat.le_of_ble_eq_true rfl) dX8_stepsAgain_2 ⟨Nat.le_of_ble_eq_true rfl, Nat.le_of_ble_eq_true rfl⟩ (fun H locs hP hD hS => ?_)
  have hP : va_P D vwCl [(a_t, .inr (12, [.ref a_t_now, .ref a_t_tried, .ref a_t_kept, .int t_undos, .ref a_t_saved, .int t_isSaved, .ref a_t_line, .int t_lined, .ref a_t_text, .int t_length, .int t_at, .int t_order, .ref a_t_told, .int t_fault, .int t_reason, .int t_detail, .int t_index, .int t_answer, .int t_thrown_2, .ref a_t_way, .int t_went_2, .int t_fell_2])), (a_t_now, .inl (y 0, 77, .inl t_now)), (a_t_way, .inl (y 0, 24, .inl t_way_2))] H := hP
  have hD : va_D A [(a_t, .inr (12, [.ref a_t_now, .ref a_t_tried, .ref a_t_kept, .int t_undos, .ref a_t_saved, .int t_isSaved, .ref a_t_line, .int t_lined, .ref a_t_text, .int t_length, .int t_at, .int t_order, .ref a_t_told, .int t_fault, .int t_reason, .int t_detail, .int t_index, .int t_answer, .int t_thrown_2, .ref a_t_way, .int t_went_2, .int t_fell_2])), (a_t_now, .inl (y 0, 77, .inl t_now)), (a_t_way, .inl (y 0, 24, .inl t_way_2))] := hD
  obtain ⟨e0_5, e1_5, e2_5, e3_5, e4_5⟩ := inj5 hF
  rw [← e0_5, ← e1_5, ← e2_5, ← e3_5, ← e4_5] at hQ0
  rw [hQ0]
  exact ret_i hx hb hr hlocks hAe hK hP hD hS [0, 1, 2] rfl rfl dX8_stepsAgain_5
def F_X8_placeOf (fl : Nat) (t_thrown : Int32) (t_went : Int32) (t_fell : Int32) (t_now : Nat → Int32) (t_way : Nat → Int32) (p1 : Int32) (p2 : Int32) : Option (Int32 × Int32 × Int32 × Int32 × (Nat → Int32)) := bn (F_X8_isKey fl p1) fun r_6 => if r_6 = 0 then (bn2 (F_X8_raises fl (0 : Int32) (1 : Int32)) fun r_14 t_thrown_14 => some (r_14, t_thrown_14, t_went, t_fell, t_way)) else (bn4 (F_X8_searches fl t_went t_fell t_now t_way p1) fun r_20 t_went_20 t_fell_20 t_way_20 => bn (F_X8_in fl p2 (0 : Int32) t_went_20) fun r_30 => if r_30 = 0 then (bn2 (F_X8_raises fl (0 : Int32) (2 : Int32)) fun r_38 t_thrown_38 => some (r_38, t_thrown_38, t_went_20, t_fell_20, t_way_20)) else (if p2 = 0 then (some ((-1 : Int32), (0 : Int32), t_went_20, t_fell_20, t_way_20)) else (gi (p2 - (1 : Int32)) 24 (bn (F_X8_key fl t_now (t_way_20 (p2 - (1 : Int32)).toNatClampNeg)) fun r_59 => some (r_59, (0 : Int32), t_went_20, t_fell_20, t_way_20)))))
theorem iX8_placeOf_X8 : ∀ w ∈ u_ws RX8 TX8 22, w ∈ wsX8_placeOf := fun w h => List.mem_cons_of_mem _ (List.mem_append_left _ (List.mem_append_right _ h))
set_option maxHeartbeats 4000000 in
set_option maxRecDepth 100000 in
theorem c_X8_placeOf (l : Launch) (D : va_G) (y : Nat → ClassId) (fl : Nat) (sz : Nat) (a_t : Nat) (a_t_now : Nat) (a_t_tried : Nat) (a_t_kept : Nat) (a_t_saved : Nat) (a_t_line : Nat) (a_t_text : Nat) (a_t_told : Nat) (a_t_way : Nat) (t_undos : Int32) (t_isSaved : Int32) (t_lined : Int32) (t_length : Int32) (t_at : Int32) (t_order : Int32) (t_fault : Int32) (t_reason : Int32) (t_detail : Int32) (t_index : Int32) (t_answer : Int32) (t_thrown : Int32) (t_went : Int32) (t_fell : Int32) (t_now : Nat → Int32) (t_way : Nat → Int32) (p1 : Int32) (p2 : Int32) (r : Int32) (t_thrown' : Int32) (t_went' : Int32) (t_fell' : Int32) (t_way' : Nat → Int32) (hF : F_X8_placeOf fl t_thrown t_went t_fell t_now t_way p1 p2 = some (r, t_thrown', t_went', t_fell', t_way')) : Met l yX8_placeOf wsX8_placeOf (rmq 4 89) (wrP D y [(a_t, .inr (12, [.ref a_t_now, .ref a_t_tried, .ref a_t_kept, .int t_undos, .ref a_t_saved, .int t_isSaved, .ref a_t_line, .int t_lined, .ref a_t_text, .int t_length, .int t_at, .int t_order, .ref a_t_told, .int t_fault, .int t_reason, .int t_detail, .int t_index, .int t_answer, .int t_thrown, .ref a_t_way, .int t_went, .int t_fell])), (a_t_now, .inl (y 0, 77, .inl t_now)), (a_t_way, .inl (y 0, 24, .inl t_way))] sz [.ref a_t, .int p1, .int p2]) (wQi D y r [(a_t, .inr (12, [.ref a_t_now, .ref a_t_tried, .ref a_t_kept, .int t_undos, .ref a_t_saved, .int t_isSaved, .ref a_t_line, .int t_lined, .ref a_t_text, .int t_length, .int t_at, .int t_order, .ref a_t_told, .int t_fault, .int t_reason, .int t_detail, .int t_index, .int t_answer, .int t_thrown', .ref a_t_way, .int t_went', .int t_fell'])), (a_t_now, .inl (y 0, 77, .inl t_now)), (a_t_way, .inl (y 0, 24, .inl t_way'))] [(a_t, .inr (12, [.ref a_t_now, .ref a_t_tried, .ref a_t_kept, .int t_undos, .ref a_t_saved, .int t_isSaved, .ref a_t_line, .int t_lined, .ref a_t_text, .int t_length, .int t_at, .int t_order, .ref a_t_told, .int t_fault, .int t_reason, .int t_detail, .int t_index, .int t_answer, .int t_thrown, .ref a_t_way, .int t_went, .int t_fell])), (a_t_now, .inl (y 0, 77, .inl t_now)), (a_t_way, .inl (y 0, 24, .inl t_way))] sz) 0 0 (va_A [(a_t, .inr (12, [.ref a_t_now, .ref a_t_tried, .ref a_t_kept, .int t_undos, .ref a_t_saved, .int t_isSaved, .ref a_t_line, .int t_lined, .ref a_t_text, .int t_length, .int t_at, .int t_order, .ref a_t_told, .int t_fault, .int t_reason, .int t_detail, .int t_index, .int t_answer, .int t_thrown, .ref a_t_way, .int t_went, .int t_fell])), (a_t_now, .inl (y 0, 77, .inl t_now)), (a_t_way, .inl (y 0, 24, .inl t_way))] sz) := by
  refine Met.ofW (cc := cX8_placeOf) (maxL := 4) (ret := (some .int)) (by decide) rfl ?_
  intro p e s m args below meth c s₁ B hml hv
  obtain ⟨hav, hsz, hP, hK, hD0⟩ := hv
  have hx := B.exec
  have hb := B.bytes
  have hr := B.returns
  have hts := atoms_spec (ws := wsX8_placeOf) B.pre
  have hown : s.vm.findClass RX8 = some m.cls := findClass_of_methodNamed B.named
  have hlocks := B.notSynchronized
  subst hsz
  have hD := hD0.self (sz := s.heap.size)
  obtain ⟨A, hAe⟩ : ∃ A : Nat → Prop, va_A [(a_t, .inr (12, [.ref a_t_now, .ref a_t_tried, .ref a_t_kept, .int t_undos, .ref a_t_saved, .int t_isSaved, .ref a_t_line, .int t_lined, .ref a_t_text, .int t_length, .int t_at, .int t_order, .ref a_t_told, .int t_fault, .int t_reason, .int t_detail, .int t_index, .int t_answer, .int t_thrown, .ref a_t_way, .int t_went, .int t_fell])), (a_t_now, .inl (y 0, 77, .inl t_now)), (a_t_way, .inl (y 0, 24, .inl t_way))] s.heap.size = A := ⟨_, rfl⟩
  rw [hAe] at hD
  have hA : ∀ q, s.heap.size ≤ q → A q := fun q h => by rw [← hAe]; exact Or.inr h
  have hS : va_S A s.heap s.heap [] := va_S.rf
  refine W_q (R1 := (rmq 4 89)) rfl (fun Q0 hQ0 => ?_)
  unfold F_X8_placeOf at hF
  refine W_entry hav (Nat.le_of_ble_eq_true rfl) (fun ls hl => ?_)
  have hl : lv_has ls 4 [(0, .ref a_t), (1, .int p1), (2, .int p2)] := hl
  refine lv_aload_n hx hb dX8_placeOf_0 rfl (lv_at hl 0 rfl) ?_
  refine lv_iconst (v := 0) hx hb dX8_placeOf_1 (by decide) ?_
  refine va_put (D := D) (ci := 12) (v := .int (0 : Int32)) (ty := .int) (C := RX8) (T := TX8) (N := 22) hx hb hts iX8_placeOf_X8 tyX8 tyX8_ok nmX8 hown hK hP hD hS 0 rfl rfl 18 (by decide) (hts (.fieldLink RX8 39 "SkipArchiveModel" "thrown" "I") (List.mem_of_getElem? (i := 1) rfl)) (fun _ h9 => h9) rfl (by decide +kernel) rfl rfl (Nat.le_of_ble_eq_true rfl) dX8_placeOf_2 (fun H locs hP hD hS => ?_)
  have hP : va_P D vwCl [(a_t, .inr (12, [.ref a_t_now, .ref a_t_tried, .ref a_t_kept, .int t_undos, .ref a_t_saved, .int t_isSaved, .ref a_t_line, .int t_lined, .ref a_t_text, .int t_length, .int t_at, .int t_order, .ref a_t_told, .int t_fault, .int t_reason, .int t_detail, .int t_index, .int t_answer, .int (0 : Int32), .ref a_t_way, .int t_went, .int t_fell])), (a_t_now, .inl (y 0, 77, .inl t_now)), (a_t_way, .inl (y 0, 24, .inl t_way))] H := hP
  have hD : va_D A [(a_t, .inr (12, [.ref a_t_now, .ref a_t_tried, .ref a_t_kept, .int t_undos, .ref a_t_saved, .int t_isSaved, .ref a_t_line, .int t_lined, .ref a_t_text, .int t_length, .int t_at, .int t_order, .ref a_t_told, .int t_fault, .int t_reason, .int t_detail, .int t_index, .int t_answer, .int (0 : Int32), .ref a_t_way, .int t_went, .int t_fell])), (a_t_now, .inl (y 0, 77, .inl t_now)), (a_t_way, .inl (y 0, 24, .inl t_way))] := hD
  refine lv_iload_n hx hb dX8_placeOf_5 rfl (lv_at hl 1 rfl) ?_
  obtain ⟨r_6, hq_6, hF⟩ := bn_i hF
  refine cr_S (As := [.int p1]) (rest := []) ⟨hx, hb, hml, hown, hts⟩ (c_X8_isKey l D y fl p1 r_6 hq_6) (va_cwS 1 hts gX8_placeOf_X8_isKey rfl rfl rfl (by decide +kernel) ⟨Nat.le_of_ble_eq_true rfl, Nat.le_of_ble_eq_true rfl⟩) hK hP [] rfl rfl hl.1 rfl (Nat.le_of_ble_eq_true rfl) dX8_placeOf_6 ⟨Nat.le_of_ble_eq_true rfl, Nat.le_of_ble_eq_true rfl⟩ ?_
  refine lv_if_ne (tgt := 18) hx hb dX8_placeOf_9 (by decide) (fun c_9 => ?_) (fun c_9 => ?_)
  · have hF := iff_ hF c_9
    refine lv_aload_n hx hb dX8_placeOf_18 rfl (lv_at hl 0 rfl) ?_
    refine lv_iload_n hx hb dX8_placeOf_19 rfl (lv_at hl 1 rfl) ?_
    obtain ⟨r_20, t_went_20, t_fell_20, t_way_20, hq_20, hF⟩ := bn4_i hF
    refine cm_Vi (As := [.int p1]) (rest := []) (wr := []) ⟨hx, hb, hml, hown, hts⟩ (c_X8_searches l D y fl H.size a_t a_t_now a_t_tried a_t_kept a_t_saved a_t_line a_t_text a_t_told a_t_way t_undos t_isSaved t_lined t_length t_at t_order t_fault t_reason t_detail t_index t_answer (0 : Int32) t_went t_fell t_now t_way p1 r_20 t_went_20 t_fell_20 t_way_20 hq_20) (cwV 1 hts gX8_placeOf_X8_searches rfl rfl rfl (by decide +kernel) ⟨Nat.le_of_ble_eq_true rfl, Nat.le_of_ble_eq_true rfl⟩) hK hP hD hS hA [0, 1, 2] [] rfl rfl rfl rfl (by decide) rfl rfl rfl hl.1 rfl (Nat.le_of_ble_eq_true rfl) dX8_placeOf_20 ⟨Nat.le_of_ble_eq_true rfl, Nat.le_of_ble_eq_true rfl⟩ (fun H locs hP hD hS => ?_)
    have hP : va_P D vwCl [(a_t, .inr (12, [.ref a_t_now, .ref a_t_tried, .ref a_t_kept, .int t_undos, .ref a_t_saved, .int t_isSaved, .ref a_t_line, .int t_lined, .ref a_t_text, .int t_length, .int t_at, .int t_order, .ref a_t_told, .int t_fault, .int t_reason, .int t_detail, .int t_index, .int t_answer, .int (0 : Int32), .ref a_t_way, .int t_went_20, .int t_fell_20])), (a_t_now, .inl (y 0, 77, .inl t_now)), (a_t_way, .inl (y 0, 24, .inl t_way_20))] H := hP
    have hD : va_D A [(a_t, .inr (12, [.ref a_t_now, .ref a_t_tried, .ref a_t_kept, .int t_undos, .ref a_t_saved, .int t_isSaved, .ref a_t_line, .int t_lined, .ref a_t_text, .int t_length, .int t_at, .int t_order, .ref a_t_told, .int t_fault, .int t_reason, .int t_detail, .int t_index, .int t_answer, .int (0 : Int32), .ref a_t_way, .int t_went_20, .int t_fell_20])), (a_t_now, .inl (y 0, 77, .inl t_now)), (a_t_way, .inl (y 0, 24, .inl t_way_20))] := hD
    refine lv_istore_n (lv' := [(3, .int r_20), (0, .ref a_t), (1, .int p1), (2, .int p2)]) hx hb dX8_placeOf_23 rfl hl (by decide) rfl (fun ls hl => ?_)
    refine lv_iload_n hx hb dX8_placeOf_24 rfl (lv_at hl 3 rfl) ?_
    refine lv_iconst (v := 0) hx hb dX8_placeOf_25 (by decide) ?_
    refine lv_aload_n hx hb dX8_placeOf_26 rfl (lv_at hl 1 rfl) ?_
    refine va_get (D := D) (ci := 12) (v := .int t_went_20) (C := RX8) (T := TX8) (N := 22) hx hb hts iX8_placeOf_X8 hown hK hP 0 rfl rfl 20 (by decide) (hts (.fieldLink RX8 139 "SkipArchiveModel" "went" "I") (List.mem_of_getElem? (i := 2) rfl)) (fun _ h9 => h9) rfl dX8_placeOf_27 ?_
    obtain ⟨r_30, hq_30, hF⟩ := bn_i hF
    refine cr_S (As := [.int p2, .int (0 : Int32), .int t_went_20]) (rest := []) ⟨hx, hb, hml, hown, hts⟩ (c_X8_in l D y fl p2 (0 : Int32) t_went_20 r_30 hq_30) (va_cwS 3 hts gX8_placeOf_X8_in rfl rfl rfl (by decide +kernel) ⟨Nat.le_of_ble_eq_true rfl, Nat.le_of_ble_eq_true rfl⟩) hK hP [] rfl rfl hl.1 rfl (Nat.le_of_ble_eq_true rfl) dX8_placeOf_30 ⟨Nat.le_of_ble_eq_true rfl, Nat.le_of_ble_eq_true rfl⟩ ?_
    refine lv_if_ne (tgt := 42) hx hb dX8_placeOf_33 (by decide) (fun c_33 => ?_) (fun c_33 => ?_)
    · have hF := iff_ hF c_33
      refine lv_iload_n hx hb dX8_placeOf_42 rfl (lv_at hl 3 rfl) ?_
      refine lv_if_ne (tgt := 50) hx hb dX8_placeOf_43 (by decide) (fun c_43 => ?_) (fun c_43 => ?_)
      · have hF := iff_ hF c_43
        refine lv_aload_n hx hb dX8_placeOf_50 rfl (lv_at hl 1 rfl) ?_
        refine lv_aload_n hx hb dX8_placeOf_51 rfl (lv_at hl 1 rfl) ?_
        refine va_get (D := D) (ci := 12) (v := .ref a_t_way) (C := RX8) (T := TX8) (N := 22) hx hb hts iX8_placeOf_X8 hown hK hP 0 rfl rfl 19 (by decide) (hts (.fieldLink RX8 36 "SkipArchiveModel" "way" "[I") (List.mem_of_getElem? (i := 3) rfl)) (fun _ h9 => h9) rfl dX8_placeOf_52 ?_
        refine lv_iload_n hx hb dX8_placeOf_55 rfl (lv_at hl 3 rfl) ?_
        refine lv_iconst (v := 1) hx hb dX8_placeOf_56 (by decide) ?_
        refine lv_isub hx hb dX8_placeOf_57 ?_
        obtain ⟨g_58, hF⟩ := gi_i hF
        refine va_iald hx hb hK hP 2 0 rfl rfl g_58 dX8_placeOf_58 ?_
        obtain ⟨r_59, hq_59, hF⟩ := bn_i hF
        refine cr_V (As := [.int (t_way_20 (p2 - (1 : Int32)).toNatClampNeg)]) (rest := []) ⟨hx, hb, hml, hown, hts⟩ (c_X8_key l D y fl a_t a_t_now a_t_tried a_t_kept a_t_saved a_t_line a_t_text a_t_told a_t_way t_undos t_isSaved t_lined t_length t_at t_order t_fault t_reason t_detail t_index t_answer (0 : Int32) t_went_20 t_fell_20 t_now (t_way_20 (p2 - (1 : Int32)).toNatClampNeg) r_59 hq_59) (cwV 1 hts gX8_placeOf_X8_key rfl rfl rfl (by decide +kernel) ⟨Nat.le_of_ble_eq_true rfl, Nat.le_of_ble_eq_true rfl⟩) hK hP [0, 1] rfl rfl rfl rfl hl.1 rfl (Nat.le_of_ble_eq_true rfl) dX8_placeOf_59 ⟨Nat.le_of_ble_eq_true rfl, Nat.le_of_ble_eq_true rfl⟩ ?_
        obtain ⟨e0_62, e1_62, e2_62, e3_62, e4_62⟩ := inj5 hF
        rw [← e0_62, ← e1_62, ← e2_62, ← e3_62, ← e4_62] at hQ0
        rw [hQ0]
        exact ret_i hx hb hr hlocks hAe hK hP hD hS [0, 1, 2] rfl rfl dX8_placeOf_62
      · have hF := ift hF c_43
        refine lv_iconst (v := -1) hx hb dX8_placeOf_46 (by decide) ?_
        refine lv_goto (tgt := 62) hx hb dX8_placeOf_47 (by decide) ?_
        obtain ⟨e0_62, e1_62, e2_62, e3_62, e4_62⟩ := inj5 hF
        rw [← e0_62, ← e1_62, ← e2_62, ← e3_62, ← e4_62] at hQ0
        rw [hQ0]
        exact ret_i hx hb hr hlocks hAe hK hP hD hS [0, 1, 2] rfl rfl dX8_placeOf_62
    · have hF := ift hF c_33
      refine lv_aload_n hx hb dX8_placeOf_36 rfl (lv_at hl 1 rfl) ?_
      refine lv_iconst (v := 2) hx hb dX8_placeOf_37 (by decide) ?_
      obtain ⟨r_38, t_thrown_38, hq_38, hF⟩ := bn2_i hF
      refine cm_Vi (As := [.int (2 : Int32)]) (rest := []) (wr := [(a_t_now, .inl (y 0, 77, .inl t_now)), (a_t_way, .inl (y 0, 24, .inl t_way_20))]) ⟨hx, hb, hml, hown, hts⟩ (c_X8_raises l D y fl H.size a_t a_t_now a_t_tried a_t_kept a_t_saved a_t_line a_t_text a_t_told a_t_way t_undos t_isSaved t_lined t_length t_at t_order t_fault t_reason t_detail t_index t_answer (0 : Int32) t_went_20 t_fell_20 (2 : Int32) r_38 t_thrown_38 hq_38) (cwV 1 hts gX8_placeOf_X8_raises rfl rfl rfl (by decide +kernel) ⟨Nat.le_of_ble_eq_true rfl, Nat.le_of_ble_eq_true rfl⟩) hK hP hD hS hA [0] [1, 2] rfl rfl rfl rfl (by decide) rfl rfl rfl hl.1 rfl (Nat.le_of_ble_eq_true rfl) dX8_placeOf_38 ⟨Nat.le_of_ble_eq_true rfl, Nat.le_of_ble_eq_true rfl⟩ (fun H locs hP hD hS => ?_)
      have hP : va_P D vwCl [(a_t_now, .inl (y 0, 77, .inl t_now)), (a_t_way, .inl (y 0, 24, .inl t_way_20)), (a_t, .inr (12, [.ref a_t_now, .ref a_t_tried, .ref a_t_kept, .int t_undos, .ref a_t_saved, .int t_isSaved, .ref a_t_line, .int t_lined, .ref a_t_text, .int t_length, .int t_at, .int t_order, .ref a_t_told, .int t_fault, .int t_reason, .int t_detail, .int t_index, .int t_answer, .int t_thrown_38, .ref a_t_way, .int t_went_20, .int t_fell_20]))] H := hP
      have hD : va_D A [(a_t_now, .inl (y 0, 77, .inl t_now)), (a_t_way, .inl (y 0, 24, .inl t_way_20)), (a_t, .inr (12, [.ref a_t_now, .ref a_t_tried, .ref a_t_kept, .int t_undos, .ref a_t_saved, .int t_isSaved, .ref a_t_line, .int t_lined, .ref a_t_text, .int t_length, .int t_at, .int t_order, .ref a_t_told, .int t_fault, .int t_reason, .int t_detail, .int t_index, .int t_answer, .int t_thrown_38, .ref a_t_way, .int t_went_20, .int t_fell_20]))] := hD
      obtain ⟨e0_41, e1_41, e2_41, e3_41, e4_41⟩ := inj5 hF
      rw [← e0_41, ← e1_41, ← e2_41, ← e3_41, ← e4_41] at hQ0
      rw [hQ0]
      exact ret_i hx hb hr hlocks hAe hK hP hD hS [2, 0, 1] rfl rfl dX8_placeOf_41
  · have hF := ift hF c_9
    refine lv_aload_n hx hb dX8_placeOf_12 rfl (lv_at hl 0 rfl) ?_
    refine lv_iconst (v := 1) hx hb dX8_placeOf_13 (by decide) ?_
    obtain ⟨r_14, t_thrown_14, hq_14, hF⟩ := bn2_i hF
    refine cm_Vi (As := [.int (1 : Int32)]) (rest := []) (wr := [(a_t_now, .inl (y 0, 77, .inl t_now)), (a_t_way, .inl (y 0, 24, .inl t_way))]) ⟨hx, hb, hml, hown, hts⟩ (c_X8_raises l D y fl H.size a_t a_t_now a_t_tried a_t_kept a_t_saved a_t_line a_t_text a_t_told a_t_way t_undos t_isSaved t_lined t_length t_at t_order t_fault t_reason t_detail t_index t_answer (0 : Int32) t_went t_fell (1 : Int32) r_14 t_thrown_14 hq_14) (cwV 1 hts gX8_placeOf_X8_raises rfl rfl rfl (by decide +kernel) ⟨Nat.le_of_ble_eq_true rfl, Nat.le_of_ble_eq_true rfl⟩) hK hP hD hS hA [0] [1, 2] rfl rfl rfl rfl (by decide) rfl rfl rfl hl.1 rfl (Nat.le_of_ble_eq_true rfl) dX8_placeOf_14 ⟨Nat.le_of_ble_eq_true rfl, Nat.le_of_ble_eq_true rfl⟩ (fun H locs hP hD hS => ?_)
    have hP : va_P D vwCl [(a_t_now, .inl (y 0, 77, .inl t_now)), (a_t_way, .inl (y 0, 24, .inl t_way)), (a_t, .inr (12, [.ref a_t_now, .ref a_t_tried, .ref a_t_kept, .int t_undos, .ref a_t_saved, .int t_isSaved, .ref a_t_line, .int t_lined, .ref a_t_text, .int t_length, .int t_at, .int t_order, .ref a_t_told, .int t_fault, .int t_reason, .int t_detail, .int t_index, .int t_answer, .int t_thrown_14, .ref a_t_way, .int t_went, .int t_fell]))] H := hP
    have hD : va_D A [(a_t_now, .inl (y 0, 77, .inl t_now)), (a_t_way, .inl (y 0, 24, .inl t_way)), (a_t, .inr (12, [.ref a_t_now, .ref a_t_tried, .ref a_t_kept, .int t_undos, .ref a_t_saved, .int t_isSaved, .ref a_t_line, .int t_lined, .ref a_t_text, .int t_length, .int t_at, .int t_order, .ref a_t_told, .int t_fault, .int t_reason, .int t_detail, .int t_index, .int t_answer, .int t_thrown_14, .ref a_t_way, .int t_went, .int t_fell]))] := hD
    obtain ⟨e0_17, e1_17, e2_17, e3_17, e4_17⟩ := inj5 hF
    rw [← e0_17, ← e1_17, ← e2_17, ← e3_17, ← e4_17] at hQ0
    rw [hQ0]
    exact ret_i hx hb hr hlocks hAe hK hP hD hS [2, 0, 1] rfl rfl dX8_placeOf_17
def F_X8_falls (fl : Nat) (t_thrown : Int32) (t_went : Int32) (t_fell : Int32) (t_now : Nat → Int32) (t_way : Nat → Int32) (p1 : Int32) : Option (Int32 × Int32 × Int32 × Int32 × (Nat → Int32)) := bn (F_X8_isKey fl p1) fun r_6 => if r_6 = 0 then (bn2 (F_X8_raises fl (0 : Int32) (1 : Int32)) fun r_14 t_thrown_14 => some (r_14, t_thrown_14, t_went, t_fell, t_way)) else (bn4 (F_X8_searches fl t_went t_fell t_now t_way p1) fun r_20 t_went_20 t_fell_20 t_way_20 => some (t_fell_20, (0 : Int32), t_went_20, t_fell_20, t_way_20))
theorem iX8_falls_X8 : ∀ w ∈ u_ws RX8 TX8 22, w ∈ wsX8_falls := fun w h => List.mem_cons_of_mem _ (List.mem_append_left _ (List.mem_append_right _ h))
set_option maxHeartbeats 4000000 in
set_option maxRecDepth 100000 in
theorem c_X8_falls (l : Launch) (D : va_G) (y : Nat → ClassId) (fl : Nat) (sz : Nat) (a_t : Nat) (a_t_now : Nat) (a_t_tried : Nat) (a_t_kept : Nat) (a_t_saved : Nat) (a_t_line : Nat) (a_t_text : Nat) (a_t_told : Nat) (a_t_way : Nat) (t_undos : Int32) (t_isSaved : Int32) (t_lined : Int32) (t_length : Int32) (t_at : Int32) (t_order : Int32) (t_fault : Int32) (t_reason : Int32) (t_detail : Int32) (t_index : Int32) (t_answer : Int32) (t_thrown : Int32) (t_went : Int32) (t_fell : Int32) (t_now : Nat → Int32) (t_way : Nat → Int32) (p1 : Int32) (r : Int32) (t_thrown' : Int32) (t_went' : Int32) (t_fell' : Int32) (t_way' : Nat → Int32) (hF : F_X8_falls fl t_thrown t_went t_fell t_now t_way p1 = some (r, t_thrown', t_went', t_fell', t_way')) : Met l yX8_falls wsX8_falls (rmq 4 89) (wrP D y [(a_t, .inr (12, [.ref a_t_now, .ref a_t_tried, .ref a_t_kept, .int t_undos, .ref a_t_saved, .int t_isSaved, .ref a_t_line, .int t_lined, .ref a_t_text, .int t_length, .int t_at, .int t_order, .ref a_t_told, .int t_fault, .int t_reason, .int t_detail, .int t_index, .int t_answer, .int t_thrown, .ref a_t_way, .int t_went, .int t_fell])), (a_t_now, .inl (y 0, 77, .inl t_now)), (a_t_way, .inl (y 0, 24, .inl t_way))] sz [.ref a_t, .int p1]) (wQi D y r [(a_t, .inr (12, [.ref a_t_now, .ref a_t_tried, .ref a_t_kept, .int t_undos, .ref a_t_saved, .int t_isSaved, .ref a_t_line, .int t_lined, .ref a_t_text, .int t_length, .int t_at, .int t_order, .ref a_t_told, .int t_fault, .int t_reason, .int t_detail, .int t_index, .int t_answer, .int t_thrown', .ref a_t_way, .int t_went', .int t_fell'])), (a_t_now, .inl (y 0, 77, .inl t_now)), (a_t_way, .inl (y 0, 24, .inl t_way'))] [(a_t, .inr (12, [.ref a_t_now, .ref a_t_tried, .ref a_t_kept, .int t_undos, .ref a_t_saved, .int t_isSaved, .ref a_t_line, .int t_lined, .ref a_t_text, .int t_length, .int t_at, .int t_order, .ref a_t_told, .int t_fault, .int t_reason, .int t_detail, .int t_index, .int t_answer, .int t_thrown, .ref a_t_way, .int t_went, .int t_fell])), (a_t_now, .inl (y 0, 77, .inl t_now)), (a_t_way, .inl (y 0, 24, .inl t_way))] sz) 0 0 (va_A [(a_t, .inr (12, [.ref a_t_now, .ref a_t_tried, .ref a_t_kept, .int t_undos, .ref a_t_saved, .int t_isSaved, .ref a_t_line, .int t_lined, .ref a_t_text, .int t_length, .int t_at, .int t_order, .ref a_t_told, .int t_fault, .int t_reason, .int t_detail, .int t_index, .int t_answer, .int t_thrown, .ref a_t_way, .int t_went, .int t_fell])), (a_t_now, .inl (y 0, 77, .inl t_now)), (a_t_way, .inl (y 0, 24, .inl t_way))] sz) := by
  refine Met.ofW (cc := cX8_falls) (maxL := 3) (ret := (some .int)) (by decide) rfl ?_
  intro p e s m args below meth c s₁ B hml hv
  obtain ⟨hav, hsz, hP, hK, hD0⟩ := hv
  have hx := B.exec
  have hb := B.bytes
  have hr := B.returns
  have hts := atoms_spec (ws := wsX8_falls) B.pre
  have hown : s.vm.findClass RX8 = some m.cls := findClass_of_methodNamed B.named
  have hlocks := B.notSynchronized
  subst hsz
  have hD := hD0.self (sz := s.heap.size)
  obtain ⟨A, hAe⟩ : ∃ A : Nat → Prop, va_A [(a_t, .inr (12, [.ref a_t_now, .ref a_t_tried, .ref a_t_kept, .int t_undos, .ref a_t_saved, .int t_isSaved, .ref a_t_line, .int t_lined, .ref a_t_text, .int t_length, .int t_at, .int t_order, .ref a_t_told, .int t_fault, .int t_reason, .int t_detail, .int t_index, .int t_answer, .int t_thrown, .ref a_t_way, .int t_went, .int t_fell])), (a_t_now, .inl (y 0, 77, .inl t_now)), (a_t_way, .inl (y 0, 24, .inl t_way))] s.heap.size = A := ⟨_, rfl⟩
  rw [hAe] at hD
  have hA : ∀ q, s.heap.size ≤ q → A q := fun q h => by rw [← hAe]; exact Or.inr h
  have hS : va_S A s.heap s.heap [] := va_S.rf
  refine W_q (R1 := (rmq 4 89)) rfl (fun Q0 hQ0 => ?_)
  unfold F_X8_falls at hF
  refine W_entry hav (Nat.le_of_ble_eq_true rfl) (fun ls hl => ?_)
  have hl : lv_has ls 3 [(0, .ref a_t), (1, .int p1)] := hl
  refine lv_aload_n hx hb dX8_falls_0 rfl (lv_at hl 0 rfl) ?_
  refine lv_iconst (v := 0) hx hb dX8_falls_1 (by decide) ?_
  refine va_put (D := D) (ci := 12) (v := .int (0 : Int32)) (ty := .int) (C := RX8) (T := TX8) (N := 22) hx hb hts iX8_falls_X8 tyX8 tyX8_ok nmX8 hown hK hP hD hS 0 rfl rfl 18 (by decide) (hts (.fieldLink RX8 39 "SkipArchiveModel" "thrown" "I") (List.mem_of_getElem? (i := 1) rfl)) (fun _ h9 => h9) rfl (by decide +kernel) rfl rfl (Nat.le_of_ble_eq_true rfl) dX8_falls_2 (fun H locs hP hD hS => ?_)
  have hP : va_P D vwCl [(a_t, .inr (12, [.ref a_t_now, .ref a_t_tried, .ref a_t_kept, .int t_undos, .ref a_t_saved, .int t_isSaved, .ref a_t_line, .int t_lined, .ref a_t_text, .int t_length, .int t_at, .int t_order, .ref a_t_told, .int t_fault, .int t_reason, .int t_detail, .int t_index, .int t_answer, .int (0 : Int32), .ref a_t_way, .int t_went, .int t_fell])), (a_t_now, .inl (y 0, 77, .inl t_now)), (a_t_way, .inl (y 0, 24, .inl t_way))] H := hP
  have hD : va_D A [(a_t, .inr (12, [.ref a_t_now, .ref a_t_tried, .ref a_t_kept, .int t_undos, .ref a_t_saved, .int t_isSaved, .ref a_t_line, .int t_lined, .ref a_t_text, .int t_length, .int t_at, .int t_order, .ref a_t_told, .int t_fault, .int t_reason, .int t_detail, .int t_index, .int t_answer, .int (0 : Int32), .ref a_t_way, .int t_went, .int t_fell])), (a_t_now, .inl (y 0, 77, .inl t_now)), (a_t_way, .inl (y 0, 24, .inl t_way))] := hD
  refine lv_iload_n hx hb dX8_falls_5 rfl (lv_at hl 1 rfl) ?_
  obtain ⟨r_6, hq_6, hF⟩ := bn_i hF
  refine cr_S (As := [.int p1]) (rest := []) ⟨hx, hb, hml, hown, hts⟩ (c_X8_isKey l D y fl p1 r_6 hq_6) (va_cwS 1 hts gX8_falls_X8_isKey rfl rfl rfl (by decide +kernel) ⟨Nat.le_of_ble_eq_true rfl, Nat.le_of_ble_eq_true rfl⟩) hK hP [] rfl rfl hl.1 rfl (Nat.le_of_ble_eq_true rfl) dX8_falls_6 ⟨Nat.le_of_ble_eq_true rfl, Nat.le_of_ble_eq_true rfl⟩ ?_
  refine lv_if_ne (tgt := 18) hx hb dX8_falls_9 (by decide) (fun c_9 => ?_) (fun c_9 => ?_)
  · have hF := iff_ hF c_9
    refine lv_aload_n hx hb dX8_falls_18 rfl (lv_at hl 0 rfl) ?_
    refine lv_iload_n hx hb dX8_falls_19 rfl (lv_at hl 1 rfl) ?_
    obtain ⟨r_20, t_went_20, t_fell_20, t_way_20, hq_20, hF⟩ := bn4_i hF
    refine cm_Vi (As := [.int p1]) (rest := []) (wr := []) ⟨hx, hb, hml, hown, hts⟩ (c_X8_searches l D y fl H.size a_t a_t_now a_t_tried a_t_kept a_t_saved a_t_line a_t_text a_t_told a_t_way t_undos t_isSaved t_lined t_length t_at t_order t_fault t_reason t_detail t_index t_answer (0 : Int32) t_went t_fell t_now t_way p1 r_20 t_went_20 t_fell_20 t_way_20 hq_20) (cwV 1 hts gX8_falls_X8_searches rfl rfl rfl (by decide +kernel) ⟨Nat.le_of_ble_eq_true rfl, Nat.le_of_ble_eq_true rfl⟩) hK hP hD hS hA [0, 1, 2] [] rfl rfl rfl rfl (by decide) rfl rfl rfl hl.1 rfl (Nat.le_of_ble_eq_true rfl) dX8_falls_20 ⟨Nat.le_of_ble_eq_true rfl, Nat.le_of_ble_eq_true rfl⟩ (fun H locs hP hD hS => ?_)
    have hP : va_P D vwCl [(a_t, .inr (12, [.ref a_t_now, .ref a_t_tried, .ref a_t_kept, .int t_undos, .ref a_t_saved, .int t_isSaved, .ref a_t_line, .int t_lined, .ref a_t_text, .int t_length, .int t_at, .int t_order, .ref a_t_told, .int t_fault, .int t_reason, .int t_detail, .int t_index, .int t_answer, .int (0 : Int32), .ref a_t_way, .int t_went_20, .int t_fell_20])), (a_t_now, .inl (y 0, 77, .inl t_now)), (a_t_way, .inl (y 0, 24, .inl t_way_20))] H := hP
    have hD : va_D A [(a_t, .inr (12, [.ref a_t_now, .ref a_t_tried, .ref a_t_kept, .int t_undos, .ref a_t_saved, .int t_isSaved, .ref a_t_line, .int t_lined, .ref a_t_text, .int t_length, .int t_at, .int t_order, .ref a_t_told, .int t_fault, .int t_reason, .int t_detail, .int t_index, .int t_answer, .int (0 : Int32), .ref a_t_way, .int t_went_20, .int t_fell_20])), (a_t_now, .inl (y 0, 77, .inl t_now)), (a_t_way, .inl (y 0, 24, .inl t_way_20))] := hD
    refine lv_istore_n (lv' := [(2, .int r_20), (0, .ref a_t), (1, .int p1)]) hx hb dX8_falls_23 rfl hl (by decide) rfl (fun ls hl => ?_)
    refine lv_aload_n hx hb dX8_falls_24 rfl (lv_at hl 1 rfl) ?_
    refine va_get (D := D) (ci := 12) (v := .int t_fell_20) (C := RX8) (T := TX8) (N := 22) hx hb hts iX8_falls_X8 hown hK hP 0 rfl rfl 21 (by decide) (hts (.fieldLink RX8 142 "SkipArchiveModel" "fell" "I") (List.mem_of_getElem? (i := 2) rfl)) (fun _ h9 => h9) rfl dX8_falls_25 ?_
    obtain ⟨e0_28, e1_28, e2_28, e3_28, e4_28⟩ := inj5 hF
    rw [← e0_28, ← e1_28, ← e2_28, ← e3_28, ← e4_28] at hQ0
    rw [hQ0]
    exact ret_i hx hb hr hlocks hAe hK hP hD hS [0, 1, 2] rfl rfl dX8_falls_28
  · have hF := ift hF c_9
    refine lv_aload_n hx hb dX8_falls_12 rfl (lv_at hl 0 rfl) ?_
    refine lv_iconst (v := 1) hx hb dX8_falls_13 (by decide) ?_
    obtain ⟨r_14, t_thrown_14, hq_14, hF⟩ := bn2_i hF
    refine cm_Vi (As := [.int (1 : Int32)]) (rest := []) (wr := [(a_t_now, .inl (y 0, 77, .inl t_now)), (a_t_way, .inl (y 0, 24, .inl t_way))]) ⟨hx, hb, hml, hown, hts⟩ (c_X8_raises l D y fl H.size a_t a_t_now a_t_tried a_t_kept a_t_saved a_t_line a_t_text a_t_told a_t_way t_undos t_isSaved t_lined t_length t_at t_order t_fault t_reason t_detail t_index t_answer (0 : Int32) t_went t_fell (1 : Int32) r_14 t_thrown_14 hq_14) (cwV 1 hts gX8_falls_X8_raises rfl rfl rfl (by decide +kernel) ⟨Nat.le_of_ble_eq_true rfl, Nat.le_of_ble_eq_true rfl⟩) hK hP hD hS hA [0] [1, 2] rfl rfl rfl rfl (by decide) rfl rfl rfl hl.1 rfl (Nat.le_of_ble_eq_true rfl) dX8_falls_14 ⟨Nat.le_of_ble_eq_true rfl, Nat.le_of_ble_eq_true rfl⟩ (fun H locs hP hD hS => ?_)
    have hP : va_P D vwCl [(a_t_now, .inl (y 0, 77, .inl t_now)), (a_t_way, .inl (y 0, 24, .inl t_way)), (a_t, .inr (12, [.ref a_t_now, .ref a_t_tried, .ref a_t_kept, .int t_undos, .ref a_t_saved, .int t_isSaved, .ref a_t_line, .int t_lined, .ref a_t_text, .int t_length, .int t_at, .int t_order, .ref a_t_told, .int t_fault, .int t_reason, .int t_detail, .int t_index, .int t_answer, .int t_thrown_14, .ref a_t_way, .int t_went, .int t_fell]))] H := hP
    have hD : va_D A [(a_t_now, .inl (y 0, 77, .inl t_now)), (a_t_way, .inl (y 0, 24, .inl t_way)), (a_t, .inr (12, [.ref a_t_now, .ref a_t_tried, .ref a_t_kept, .int t_undos, .ref a_t_saved, .int t_isSaved, .ref a_t_line, .int t_lined, .ref a_t_text, .int t_length, .int t_at, .int t_order, .ref a_t_told, .int t_fault, .int t_reason, .int t_detail, .int t_index, .int t_answer, .int t_thrown_14, .ref a_t_way, .int t_went, .int t_fell]))] := hD
    obtain ⟨e0_17, e1_17, e2_17, e3_17, e4_17⟩ := inj5 hF
    rw [← e0_17, ← e1_17, ← e2_17, ← e3_17, ← e4_17] at hQ0
    rw [hQ0]
    exact ret_i hx hb hr hlocks hAe hK hP hD hS [2, 0, 1] rfl rfl dX8_falls_17
def F_X8_floor (fl : Nat) (t_thrown : Int32) (t_now : Nat → Int32) (p1 : Int32) : Option (Int32 × Int32) := bn (F_X8_isKey fl p1) fun r_6 => if r_6 = 0 then (bn2 (F_X8_raises fl (0 : Int32) (1 : Int32)) fun r_14 t_thrown_14 => some (r_14, t_thrown_14)) else (bn (F_X8_lower fl t_now p1 (1 : Int32)) fun r_21 => if r_21 = 0 then (bn2 (F_X8_raises fl (0 : Int32) (2 : Int32)) fun r_31 t_thrown_31 => some (r_31, t_thrown_31)) else (bn (F_X8_key fl t_now (r_21 - (1 : Int32))) fun r_41 => some (r_41, (0 : Int32))))
theorem iX8_floor_X8 : ∀ w ∈ u_ws RX8 TX8 22, w ∈ wsX8_floor := fun w h => List.mem_cons_of_mem _ (List.mem_append_left _ (List.mem_append_right _ h))
set_option maxHeartbeats 4000000 in
set_option maxRecDepth 100000 in
theorem c_X8_floor (l : Launch) (D : va_G) (y : Nat → ClassId) (fl : Nat) (sz : Nat) (a_t : Nat) (a_t_now : Nat) (a_t_tried : Nat) (a_t_kept : Nat) (a_t_saved : Nat) (a_t_line : Nat) (a_t_text : Nat) (a_t_told : Nat) (a_t_way : Nat) (t_undos : Int32) (t_isSaved : Int32) (t_lined : Int32) (t_length : Int32) (t_at : Int32) (t_order : Int32) (t_fault : Int32) (t_reason : Int32) (t_detail : Int32) (t_index : Int32) (t_answer : Int32) (t_thrown : Int32) (t_went : Int32) (t_fell : Int32) (t_now : Nat → Int32) (p1 : Int32) (r : Int32) (t_thrown' : Int32) (hF : F_X8_floor fl t_thrown t_now p1 = some (r, t_thrown')) : Met l yX8_floor wsX8_floor (rmq 2 44) (wrP D y [(a_t, .inr (12, [.ref a_t_now, .ref a_t_tried, .ref a_t_kept, .int t_undos, .ref a_t_saved, .int t_isSaved, .ref a_t_line, .int t_lined, .ref a_t_text, .int t_length, .int t_at, .int t_order, .ref a_t_told, .int t_fault, .int t_reason, .int t_detail, .int t_index, .int t_answer, .int t_thrown, .ref a_t_way, .int t_went, .int t_fell])), (a_t_now, .inl (y 0, 77, .inl t_now))] sz [.ref a_t, .int p1]) (wQi D y r [(a_t, .inr (12, [.ref a_t_now, .ref a_t_tried, .ref a_t_kept, .int t_undos, .ref a_t_saved, .int t_isSaved, .ref a_t_line, .int t_lined, .ref a_t_text, .int t_length, .int t_at, .int t_order, .ref a_t_told, .int t_fault, .int t_reason, .int t_detail, .int t_index, .int t_answer, .int t_thrown', .ref a_t_way, .int t_went, .int t_fell])), (a_t_now, .inl (y 0, 77, .inl t_now))] [(a_t, .inr (12, [.ref a_t_now, .ref a_t_tried, .ref a_t_kept, .int t_undos, .ref a_t_saved, .int t_isSaved, .ref a_t_line, .int t_lined, .ref a_t_text, .int t_length, .int t_at, .int t_order, .ref a_t_told, .int t_fault, .int t_reason, .int t_detail, .int t_index, .int t_answer, .int t_thrown, .ref a_t_way, .int t_went, .int t_fell])), (a_t_now, .inl (y 0, 77, .inl t_now))] sz) 0 0 (va_A [(a_t, .inr (12, [.ref a_t_now, .ref a_t_tried, .ref a_t_kept, .int t_undos, .ref a_t_saved, .int t_isSaved, .ref a_t_line, .int t_lined, .ref a_t_text, .int t_length, .int t_at, .int t_order, .ref a_t_told, .int t_fault, .int t_reason, .int t_detail, .int t_index, .int t_answer, .int t_thrown, .ref a_t_way, .int t_went, .int t_fell])), (a_t_now, .inl (y 0, 77, .inl t_now))] sz) := by
  refine Met.ofW (cc := cX8_floor) (maxL := 3) (ret := (some .int)) (by decide) rfl ?_
  intro p e s m args below meth c s₁ B hml hv
  obtain ⟨hav, hsz, hP, hK, hD0⟩ := hv
  have hx := B.exec
  have hb := B.bytes
  have hr := B.returns
  have hts := atoms_spec (ws := wsX8_floor) B.pre
  have hown : s.vm.findClass RX8 = some m.cls := findClass_of_methodNamed B.named
  have hlocks := B.notSynchronized
  subst hsz
  have hD := hD0.self (sz := s.heap.size)
  obtain ⟨A, hAe⟩ : ∃ A : Nat → Prop, va_A [(a_t, .inr (12, [.ref a_t_now, .ref a_t_tried, .ref a_t_kept, .int t_undos, .ref a_t_saved, .int t_isSaved, .ref a_t_line, .int t_lined, .ref a_t_text, .int t_length, .int t_at, .int t_order, .ref a_t_told, .int t_fault, .int t_reason, .int t_detail, .int t_index, .int t_answer, .int t_thrown, .ref a_t_way, .int t_went, .int t_fell])), (a_t_now, .inl (y 0, 77, .inl t_now))] s.heap.size = A := ⟨_, rfl⟩
  rw [hAe] at hD
  have hA : ∀ q, s.heap.size ≤ q → A q := fun q h => by rw [← hAe]; exact Or.inr h
  have hS : va_S A s.heap s.heap [] := va_S.rf
  refine W_q (R1 := (rmq 2 44)) rfl (fun Q0 hQ0 => ?_)
  unfold F_X8_floor at hF
  refine W_entry hav (Nat.le_of_ble_eq_true rfl) (fun ls hl => ?_)
  have hl : lv_has ls 3 [(0, .ref a_t), (1, .int p1)] := hl
  refine lv_aload_n hx hb dX8_floor_0 rfl (lv_at hl 0 rfl) ?_
  refine lv_iconst (v := 0) hx hb dX8_floor_1 (by decide) ?_
  refine va_put (D := D) (ci := 12) (v := .int (0 : Int32)) (ty := .int) (C := RX8) (T := TX8) (N := 22) hx hb hts iX8_floor_X8 tyX8 tyX8_ok nmX8 hown hK hP hD hS 0 rfl rfl 18 (by decide) (hts (.fieldLink RX8 39 "SkipArchiveModel" "thrown" "I") (List.mem_of_getElem? (i := 1) rfl)) (fun _ h9 => h9) rfl (by decide +kernel) rfl rfl (Nat.le_of_ble_eq_true rfl) dX8_floor_2 (fun H locs hP hD hS => ?_)
  have hP : va_P D vwCl [(a_t, .inr (12, [.ref a_t_now, .ref a_t_tried, .ref a_t_kept, .int t_undos, .ref a_t_saved, .int t_isSaved, .ref a_t_line, .int t_lined, .ref a_t_text, .int t_length, .int t_at, .int t_order, .ref a_t_told, .int t_fault, .int t_reason, .int t_detail, .int t_index, .int t_answer, .int (0 : Int32), .ref a_t_way, .int t_went, .int t_fell])), (a_t_now, .inl (y 0, 77, .inl t_now))] H := hP
  have hD : va_D A [(a_t, .inr (12, [.ref a_t_now, .ref a_t_tried, .ref a_t_kept, .int t_undos, .ref a_t_saved, .int t_isSaved, .ref a_t_line, .int t_lined, .ref a_t_text, .int t_length, .int t_at, .int t_order, .ref a_t_told, .int t_fault, .int t_reason, .int t_detail, .int t_index, .int t_answer, .int (0 : Int32), .ref a_t_way, .int t_went, .int t_fell])), (a_t_now, .inl (y 0, 77, .inl t_now))] := hD
  refine lv_iload_n hx hb dX8_floor_5 rfl (lv_at hl 1 rfl) ?_
  obtain ⟨r_6, hq_6, hF⟩ := bn_i hF
  refine cr_S (As := [.int p1]) (rest := []) ⟨hx, hb, hml, hown, hts⟩ (c_X8_isKey l D y fl p1 r_6 hq_6) (va_cwS 1 hts gX8_floor_X8_isKey rfl rfl rfl (by decide +kernel) ⟨Nat.le_of_ble_eq_true rfl, Nat.le_of_ble_eq_true rfl⟩) hK hP [] rfl rfl hl.1 rfl (Nat.le_of_ble_eq_true rfl) dX8_floor_6 ⟨Nat.le_of_ble_eq_true rfl, Nat.le_of_ble_eq_true rfl⟩ ?_
  refine lv_if_ne (tgt := 18) hx hb dX8_floor_9 (by decide) (fun c_9 => ?_) (fun c_9 => ?_)
  · have hF := iff_ hF c_9
    refine lv_aload_n hx hb dX8_floor_18 rfl (lv_at hl 0 rfl) ?_
    refine lv_iload_n hx hb dX8_floor_19 rfl (lv_at hl 1 rfl) ?_
    refine lv_iconst (v := 1) hx hb dX8_floor_20 (by decide) ?_
    obtain ⟨r_21, hq_21, hF⟩ := bn_i hF
    refine cr_V (As := [.int p1, .int (1 : Int32)]) (rest := []) ⟨hx, hb, hml, hown, hts⟩ (c_X8_lower l D y fl a_t a_t_now a_t_tried a_t_kept a_t_saved a_t_line a_t_text a_t_told a_t_way t_undos t_isSaved t_lined t_length t_at t_order t_fault t_reason t_detail t_index t_answer (0 : Int32) t_went t_fell t_now p1 (1 : Int32) r_21 hq_21) (cwV 2 hts gX8_floor_X8_lower rfl rfl rfl (by decide +kernel) ⟨Nat.le_of_ble_eq_true rfl, Nat.le_of_ble_eq_true rfl⟩) hK hP [0, 1] rfl rfl rfl rfl hl.1 rfl (Nat.le_of_ble_eq_true rfl) dX8_floor_21 ⟨Nat.le_of_ble_eq_true rfl, Nat.le_of_ble_eq_true rfl⟩ ?_
    refine lv_istore_n (lv' := [(2, .int r_21), (0, .ref a_t), (1, .int p1)]) hx hb dX8_floor_24 rfl hl (by decide) rfl (fun ls hl => ?_)
    refine lv_iload_n hx hb dX8_floor_25 rfl (lv_at hl 0 rfl) ?_
    refine lv_if_ne (tgt := 37) hx hb dX8_floor_26 (by decide) (fun c_26 => ?_) (fun c_26 => ?_)
    · have hF := iff_ hF c_26
      refine lv_aload_n hx hb dX8_floor_37 rfl (lv_at hl 1 rfl) ?_
      refine lv_iload_n hx hb dX8_floor_38 rfl (lv_at hl 0 rfl) ?_
      refine lv_iconst (v := 1) hx hb dX8_floor_39 (by decide) ?_
      refine lv_isub hx hb dX8_floor_40 ?_
      obtain ⟨r_41, hq_41, hF⟩ := bn_i hF
      refine cr_V (As := [.int (r_21 - (1 : Int32))]) (rest := []) ⟨hx, hb, hml, hown, hts⟩ (c_X8_key l D y fl a_t a_t_now a_t_tried a_t_kept a_t_saved a_t_line a_t_text a_t_told a_t_way t_undos t_isSaved t_lined t_length t_at t_order t_fault t_reason t_detail t_index t_answer (0 : Int32) t_went t_fell t_now (r_21 - (1 : Int32)) r_41 hq_41) (cwV 1 hts gX8_floor_X8_key rfl rfl rfl (by decide +kernel) ⟨Nat.le_of_ble_eq_true rfl, Nat.le_of_ble_eq_true rfl⟩) hK hP [0, 1] rfl rfl rfl rfl hl.1 rfl (Nat.le_of_ble_eq_true rfl) dX8_floor_41 ⟨Nat.le_of_ble_eq_true rfl, Nat.le_of_ble_eq_true rfl⟩ ?_
      obtain ⟨e0_44, e1_44⟩ := inj2 hF
      rw [← e0_44, ← e1_44] at hQ0
      rw [hQ0]
      exact ret_i hx hb hr hlocks hAe hK hP hD hS [0, 1] rfl rfl dX8_floor_44
    · have hF := ift hF c_26
      refine lv_aload_n hx hb dX8_floor_29 rfl (lv_at hl 1 rfl) ?_
      refine lv_iconst (v := 2) hx hb dX8_floor_30 (by decide) ?_
      obtain ⟨r_31, t_thrown_31, hq_31, hF⟩ := bn2_i hF
      refine cm_Vi (As := [.int (2 : Int32)]) (rest := []) (wr := [(a_t_now, .inl (y 0, 77, .inl t_now))]) ⟨hx, hb, hml, hown, hts⟩ (c_X8_raises l D y fl H.size a_t a_t_now a_t_tried a_t_kept a_t_saved a_t_line a_t_text a_t_told a_t_way t_undos t_isSaved t_lined t_length t_at t_order t_fault t_reason t_detail t_index t_answer (0 : Int32) t_went t_fell (2 : Int32) r_31 t_thrown_31 hq_31) (cwV 1 hts gX8_floor_X8_raises rfl rfl rfl (by decide +kernel) ⟨Nat.le_of_ble_eq_true rfl, Nat.le_of_ble_eq_true rfl⟩) hK hP hD hS hA [0] [1] rfl rfl rfl rfl (by decide) rfl rfl rfl hl.1 rfl (Nat.le_of_ble_eq_true rfl) dX8_floor_31 ⟨Nat.le_of_ble_eq_true rfl, Nat.le_of_ble_eq_true rfl⟩ (fun H locs hP hD hS => ?_)
      have hP : va_P D vwCl [(a_t_now, .inl (y 0, 77, .inl t_now)), (a_t, .inr (12, [.ref a_t_now, .ref a_t_tried, .ref a_t_kept, .int t_undos, .ref a_t_saved, .int t_isSaved, .ref a_t_line, .int t_lined, .ref a_t_text, .int t_length, .int t_at, .int t_order, .ref a_t_told, .int t_fault, .int t_reason, .int t_detail, .int t_index, .int t_answer, .int t_thrown_31, .ref a_t_way, .int t_went, .int t_fell]))] H := hP
      have hD : va_D A [(a_t_now, .inl (y 0, 77, .inl t_now)), (a_t, .inr (12, [.ref a_t_now, .ref a_t_tried, .ref a_t_kept, .int t_undos, .ref a_t_saved, .int t_isSaved, .ref a_t_line, .int t_lined, .ref a_t_text, .int t_length, .int t_at, .int t_order, .ref a_t_told, .int t_fault, .int t_reason, .int t_detail, .int t_index, .int t_answer, .int t_thrown_31, .ref a_t_way, .int t_went, .int t_fell]))] := hD
      refine lv_goto (tgt := 44) hx hb dX8_floor_34 (by decide) ?_
      obtain ⟨e0_44, e1_44⟩ := inj2 hF
      rw [← e0_44, ← e1_44] at hQ0
      rw [hQ0]
      exact ret_i hx hb hr hlocks hAe hK hP hD hS [1, 0] rfl rfl dX8_floor_44
  · have hF := ift hF c_9
    refine lv_aload_n hx hb dX8_floor_12 rfl (lv_at hl 0 rfl) ?_
    refine lv_iconst (v := 1) hx hb dX8_floor_13 (by decide) ?_
    obtain ⟨r_14, t_thrown_14, hq_14, hF⟩ := bn2_i hF
    refine cm_Vi (As := [.int (1 : Int32)]) (rest := []) (wr := [(a_t_now, .inl (y 0, 77, .inl t_now))]) ⟨hx, hb, hml, hown, hts⟩ (c_X8_raises l D y fl H.size a_t a_t_now a_t_tried a_t_kept a_t_saved a_t_line a_t_text a_t_told a_t_way t_undos t_isSaved t_lined t_length t_at t_order t_fault t_reason t_detail t_index t_answer (0 : Int32) t_went t_fell (1 : Int32) r_14 t_thrown_14 hq_14) (cwV 1 hts gX8_floor_X8_raises rfl rfl rfl (by decide +kernel) ⟨Nat.le_of_ble_eq_true rfl, Nat.le_of_ble_eq_true rfl⟩) hK hP hD hS hA [0] [1] rfl rfl rfl rfl (by decide) rfl rfl rfl hl.1 rfl (Nat.le_of_ble_eq_true rfl) dX8_floor_14 ⟨Nat.le_of_ble_eq_true rfl, Nat.le_of_ble_eq_true rfl⟩ (fun H locs hP hD hS => ?_)
    have hP : va_P D vwCl [(a_t_now, .inl (y 0, 77, .inl t_now)), (a_t, .inr (12, [.ref a_t_now, .ref a_t_tried, .ref a_t_kept, .int t_undos, .ref a_t_saved, .int t_isSaved, .ref a_t_line, .int t_lined, .ref a_t_text, .int t_length, .int t_at, .int t_order, .ref a_t_told, .int t_fault, .int t_reason, .int t_detail, .int t_index, .int t_answer, .int t_thrown_14, .ref a_t_way, .int t_went, .int t_fell]))] H := hP
    have hD : va_D A [(a_t_now, .inl (y 0, 77, .inl t_now)), (a_t, .inr (12, [.ref a_t_now, .ref a_t_tried, .ref a_t_kept, .int t_undos, .ref a_t_saved, .int t_isSaved, .ref a_t_line, .int t_lined, .ref a_t_text, .int t_length, .int t_at, .int t_order, .ref a_t_told, .int t_fault, .int t_reason, .int t_detail, .int t_index, .int t_answer, .int t_thrown_14, .ref a_t_way, .int t_went, .int t_fell]))] := hD
    obtain ⟨e0_17, e1_17⟩ := inj2 hF
    rw [← e0_17, ← e1_17] at hQ0
    rw [hQ0]
    exact ret_i hx hb hr hlocks hAe hK hP hD hS [1, 0] rfl rfl dX8_floor_17
def F_X8_ceiling (fl : Nat) (t_thrown : Int32) (t_now : Nat → Int32) (p1 : Int32) : Option (Int32 × Int32) := bn (F_X8_isKey fl p1) fun r_6 => if r_6 = 0 then (bn2 (F_X8_raises fl (0 : Int32) (1 : Int32)) fun r_14 t_thrown_14 => some (r_14, t_thrown_14)) else (bn (F_X8_lower fl t_now p1 (0 : Int32)) fun r_21 => gi (0 : Int32) 77 (if r_21 = (t_now (0 : Int32).toNatClampNeg) then (bn2 (F_X8_raises fl (0 : Int32) (2 : Int32)) fun r_37 t_thrown_37 => some (r_37, t_thrown_37)) else (bn (F_X8_key fl t_now r_21) fun r_45 => some (r_45, (0 : Int32)))))
theorem iX8_ceiling_X8 : ∀ w ∈ u_ws RX8 TX8 22, w ∈ wsX8_ceiling := fun w h => List.mem_cons_of_mem _ (List.mem_append_left _ (List.mem_append_right _ h))
set_option maxHeartbeats 4000000 in
set_option maxRecDepth 100000 in
theorem c_X8_ceiling (l : Launch) (D : va_G) (y : Nat → ClassId) (fl : Nat) (sz : Nat) (a_t : Nat) (a_t_now : Nat) (a_t_tried : Nat) (a_t_kept : Nat) (a_t_saved : Nat) (a_t_line : Nat) (a_t_text : Nat) (a_t_told : Nat) (a_t_way : Nat) (t_undos : Int32) (t_isSaved : Int32) (t_lined : Int32) (t_length : Int32) (t_at : Int32) (t_order : Int32) (t_fault : Int32) (t_reason : Int32) (t_detail : Int32) (t_index : Int32) (t_answer : Int32) (t_thrown : Int32) (t_went : Int32) (t_fell : Int32) (t_now : Nat → Int32) (p1 : Int32) (r : Int32) (t_thrown' : Int32) (hF : F_X8_ceiling fl t_thrown t_now p1 = some (r, t_thrown')) : Met l yX8_ceiling wsX8_ceiling (rmq 2 44) (wrP D y [(a_t, .inr (12, [.ref a_t_now, .ref a_t_tried, .ref a_t_kept, .int t_undos, .ref a_t_saved, .int t_isSaved, .ref a_t_line, .int t_lined, .ref a_t_text, .int t_length, .int t_at, .int t_order, .ref a_t_told, .int t_fault, .int t_reason, .int t_detail, .int t_index, .int t_answer, .int t_thrown, .ref a_t_way, .int t_went, .int t_fell])), (a_t_now, .inl (y 0, 77, .inl t_now))] sz [.ref a_t, .int p1]) (wQi D y r [(a_t, .inr (12, [.ref a_t_now, .ref a_t_tried, .ref a_t_kept, .int t_undos, .ref a_t_saved, .int t_isSaved, .ref a_t_line, .int t_lined, .ref a_t_text, .int t_length, .int t_at, .int t_order, .ref a_t_told, .int t_fault, .int t_reason, .int t_detail, .int t_index, .int t_answer, .int t_thrown', .ref a_t_way, .int t_went, .int t_fell])), (a_t_now, .inl (y 0, 77, .inl t_now))] [(a_t, .inr (12, [.ref a_t_now, .ref a_t_tried, .ref a_t_kept, .int t_undos, .ref a_t_saved, .int t_isSaved, .ref a_t_line, .int t_lined, .ref a_t_text, .int t_length, .int t_at, .int t_order, .ref a_t_told, .int t_fault, .int t_reason, .int t_detail, .int t_index, .int t_answer, .int t_thrown, .ref a_t_way, .int t_went, .int t_fell])), (a_t_now, .inl (y 0, 77, .inl t_now))] sz) 0 0 (va_A [(a_t, .inr (12, [.ref a_t_now, .ref a_t_tried, .ref a_t_kept, .int t_undos, .ref a_t_saved, .int t_isSaved, .ref a_t_line, .int t_lined, .ref a_t_text, .int t_length, .int t_at, .int t_order, .ref a_t_told, .int t_fault, .int t_reason, .int t_detail, .int t_index, .int t_answer, .int t_thrown, .ref a_t_way, .int t_went, .int t_fell])), (a_t_now, .inl (y 0, 77, .inl t_now))] sz) := by
  refine Met.ofW (cc := cX8_ceiling) (maxL := 3) (ret := (some .int)) (by decide) rfl ?_
  intro p e s m args below meth c s₁ B hml hv
  obtain ⟨hav, hsz, hP, hK, hD0⟩ := hv
  have hx := B.exec
  have hb := B.bytes
  have hr := B.returns
  have hts := atoms_spec (ws := wsX8_ceiling) B.pre
  have hown : s.vm.findClass RX8 = some m.cls := findClass_of_methodNamed B.named
  have hlocks := B.notSynchronized
  subst hsz
  have hD := hD0.self (sz := s.heap.size)
  obtain ⟨A, hAe⟩ : ∃ A : Nat → Prop, va_A [(a_t, .inr (12, [.ref a_t_now, .ref a_t_tried, .ref a_t_kept, .int t_undos, .ref a_t_saved, .int t_isSaved, .ref a_t_line, .int t_lined, .ref a_t_text, .int t_length, .int t_at, .int t_order, .ref a_t_told, .int t_fault, .int t_reason, .int t_detail, .int t_index, .int t_answer, .int t_thrown, .ref a_t_way, .int t_went, .int t_fell])), (a_t_now, .inl (y 0, 77, .inl t_now))] s.heap.size = A := ⟨_, rfl⟩
  rw [hAe] at hD
  have hA : ∀ q, s.heap.size ≤ q → A q := fun q h => by rw [← hAe]; exact Or.inr h
  have hS : va_S A s.heap s.heap [] := va_S.rf
  refine W_q (R1 := (rmq 2 44)) rfl (fun Q0 hQ0 => ?_)
  unfold F_X8_ceiling at hF
  refine W_entry hav (Nat.le_of_ble_eq_true rfl) (fun ls hl => ?_)
  have hl : lv_has ls 3 [(0, .ref a_t), (1, .int p1)] := hl
  refine lv_aload_n hx hb dX8_ceiling_0 rfl (lv_at hl 0 rfl) ?_
  refine lv_iconst (v := 0) hx hb dX8_ceiling_1 (by decide) ?_
  refine va_put (D := D) (ci := 12) (v := .int (0 : Int32)) (ty := .int) (C := RX8) (T := TX8) (N := 22) hx hb hts iX8_ceiling_X8 tyX8 tyX8_ok nmX8 hown hK hP hD hS 0 rfl rfl 18 (by decide) (hts (.fieldLink RX8 39 "SkipArchiveModel" "thrown" "I") (List.mem_of_getElem? (i := 1) rfl)) (fun _ h9 => h9) rfl (by decide +kernel) rfl rfl (Nat.le_of_ble_eq_true rfl) dX8_ceiling_2 (fun H locs hP hD hS => ?_)
  have hP : va_P D vwCl [(a_t, .inr (12, [.ref a_t_now, .ref a_t_tried, .ref a_t_kept, .int t_undos, .ref a_t_saved, .int t_isSaved, .ref a_t_line, .int t_lined, .ref a_t_text, .int t_length, .int t_at, .int t_order, .ref a_t_told, .int t_fault, .int t_reason, .int t_detail, .int t_index, .int t_answer, .int (0 : Int32), .ref a_t_way, .int t_went, .int t_fell])), (a_t_now, .inl (y 0, 77, .inl t_now))] H := hP
  have hD : va_D A [(a_t, .inr (12, [.ref a_t_now, .ref a_t_tried, .ref a_t_kept, .int t_undos, .ref a_t_saved, .int t_isSaved, .ref a_t_line, .int t_lined, .ref a_t_text, .int t_length, .int t_at, .int t_order, .ref a_t_told, .int t_fault, .int t_reason, .int t_detail, .int t_index, .int t_answer, .int (0 : Int32), .ref a_t_way, .int t_went, .int t_fell])), (a_t_now, .inl (y 0, 77, .inl t_now))] := hD
  refine lv_iload_n hx hb dX8_ceiling_5 rfl (lv_at hl 1 rfl) ?_
  obtain ⟨r_6, hq_6, hF⟩ := bn_i hF
  refine cr_S (As := [.int p1]) (rest := []) ⟨hx, hb, hml, hown, hts⟩ (c_X8_isKey l D y fl p1 r_6 hq_6) (va_cwS 1 hts gX8_ceiling_X8_isKey rfl rfl rfl (by decide +kernel) ⟨Nat.le_of_ble_eq_true rfl, Nat.le_of_ble_eq_true rfl⟩) hK hP [] rfl rfl hl.1 rfl (Nat.le_of_ble_eq_true rfl) dX8_ceiling_6 ⟨Nat.le_of_ble_eq_true rfl, Nat.le_of_ble_eq_true rfl⟩ ?_
  refine lv_if_ne (tgt := 18) hx hb dX8_ceiling_9 (by decide) (fun c_9 => ?_) (fun c_9 => ?_)
  · have hF := iff_ hF c_9
    refine lv_aload_n hx hb dX8_ceiling_18 rfl (lv_at hl 0 rfl) ?_
    refine lv_iload_n hx hb dX8_ceiling_19 rfl (lv_at hl 1 rfl) ?_
    refine lv_iconst (v := 0) hx hb dX8_ceiling_20 (by decide) ?_
    obtain ⟨r_21, hq_21, hF⟩ := bn_i hF
    refine cr_V (As := [.int p1, .int (0 : Int32)]) (rest := []) ⟨hx, hb, hml, hown, hts⟩ (c_X8_lower l D y fl a_t a_t_now a_t_tried a_t_kept a_t_saved a_t_line a_t_text a_t_told a_t_way t_undos t_isSaved t_lined t_length t_at t_order t_fault t_reason t_detail t_index t_answer (0 : Int32) t_went t_fell t_now p1 (0 : Int32) r_21 hq_21) (cwV 2 hts gX8_ceiling_X8_lower rfl rfl rfl (by decide +kernel) ⟨Nat.le_of_ble_eq_true rfl, Nat.le_of_ble_eq_true rfl⟩) hK hP [0, 1] rfl rfl rfl rfl hl.1 rfl (Nat.le_of_ble_eq_true rfl) dX8_ceiling_21 ⟨Nat.le_of_ble_eq_true rfl, Nat.le_of_ble_eq_true rfl⟩ ?_
    refine lv_istore_n (lv' := [(2, .int r_21), (0, .ref a_t), (1, .int p1)]) hx hb dX8_ceiling_24 rfl hl (by decide) rfl (fun ls hl => ?_)
    refine lv_iload_n hx hb dX8_ceiling_25 rfl (lv_at hl 0 rfl) ?_
    refine lv_aload_n hx hb dX8_ceiling_26 rfl (lv_at hl 1 rfl) ?_
    refine va_get (D := D) (ci := 12) (v := .ref a_t_now) (C := RX8) (T := TX8) (N := 22) hx hb hts iX8_ceiling_X8 hown hK hP 0 rfl rfl 0 (by decide) (hts (.fieldLink RX8 9 "SkipArchiveModel" "now" "[I") (List.mem_of_getElem? (i := 2) rfl)) (fun _ h9 => h9) rfl dX8_ceiling_27 ?_
    refine lv_iconst (v := 0) hx hb dX8_ceiling_30 (by decide) ?_
    obtain ⟨g_31, hF⟩ := gi_i hF
    refine va_iald hx hb hK hP 1 0 rfl rfl g_31 dX8_ceiling_31 ?_
    refine lv_icmp_ne (tgt := 43) hx hb dX8_ceiling_32 (by decide) (fun c_32 => ?_) (fun c_32 => ?_)
    · have hF := iff_ hF c_32
      refine lv_aload_n hx hb dX8_ceiling_43 rfl (lv_at hl 1 rfl) ?_
      refine lv_iload_n hx hb dX8_ceiling_44 rfl (lv_at hl 0 rfl) ?_
      obtain ⟨r_45, hq_45, hF⟩ := bn_i hF
      refine cr_V (As := [.int r_21]) (rest := []) ⟨hx, hb, hml, hown, hts⟩ (c_X8_key l D y fl a_t a_t_now a_t_tried a_t_kept a_t_saved a_t_line a_t_text a_t_told a_t_way t_undos t_isSaved t_lined t_length t_at t_order t_fault t_reason t_detail t_index t_answer (0 : Int32) t_went t_fell t_now r_21 r_45 hq_45) (cwV 1 hts gX8_ceiling_X8_key rfl rfl rfl (by decide +kernel) ⟨Nat.le_of_ble_eq_true rfl, Nat.le_of_ble_eq_true rfl⟩) hK hP [0, 1] rfl rfl rfl rfl hl.1 rfl (Nat.le_of_ble_eq_true rfl) dX8_ceiling_45 ⟨Nat.le_of_ble_eq_true rfl, Nat.le_of_ble_eq_true rfl⟩ ?_
      obtain ⟨e0_48, e1_48⟩ := inj2 hF
      rw [← e0_48, ← e1_48] at hQ0
      rw [hQ0]
      exact ret_i hx hb hr hlocks hAe hK hP hD hS [0, 1] rfl rfl dX8_ceiling_48
    · have hF := ift hF c_32
      refine lv_aload_n hx hb dX8_ceiling_35 rfl (lv_at hl 1 rfl) ?_
      refine lv_iconst (v := 2) hx hb dX8_ceiling_36 (by decide) ?_
      obtain ⟨r_37, t_thrown_37, hq_37, hF⟩ := bn2_i hF
      refine cm_Vi (As := [.int (2 : Int32)]) (rest := []) (wr := [(a_t_now, .inl (y 0, 77, .inl t_now))]) ⟨hx, hb, hml, hown, hts⟩ (c_X8_raises l D y fl H.size a_t a_t_now a_t_tried a_t_kept a_t_saved a_t_line a_t_text a_t_told a_t_way t_undos t_isSaved t_lined t_length t_at t_order t_fault t_reason t_detail t_index t_answer (0 : Int32) t_went t_fell (2 : Int32) r_37 t_thrown_37 hq_37) (cwV 1 hts gX8_ceiling_X8_raises rfl rfl rfl (by decide +kernel) ⟨Nat.le_of_ble_eq_true rfl, Nat.le_of_ble_eq_true rfl⟩) hK hP hD hS hA [0] [1] rfl rfl rfl rfl (by decide) rfl rfl rfl hl.1 rfl (Nat.le_of_ble_eq_true rfl) dX8_ceiling_37 ⟨Nat.le_of_ble_eq_true rfl, Nat.le_of_ble_eq_true rfl⟩ (fun H locs hP hD hS => ?_)
      have hP : va_P D vwCl [(a_t_now, .inl (y 0, 77, .inl t_now)), (a_t, .inr (12, [.ref a_t_now, .ref a_t_tried, .ref a_t_kept, .int t_undos, .ref a_t_saved, .int t_isSaved, .ref a_t_line, .int t_lined, .ref a_t_text, .int t_length, .int t_at, .int t_order, .ref a_t_told, .int t_fault, .int t_reason, .int t_detail, .int t_index, .int t_answer, .int t_thrown_37, .ref a_t_way, .int t_went, .int t_fell]))] H := hP
      have hD : va_D A [(a_t_now, .inl (y 0, 77, .inl t_now)), (a_t, .inr (12, [.ref a_t_now, .ref a_t_tried, .ref a_t_kept, .int t_undos, .ref a_t_saved, .int t_isSaved, .ref a_t_line, .int t_lined, .ref a_t_text, .int t_length, .int t_at, .int t_order, .ref a_t_told, .int t_fault, .int t_reason, .int t_detail, .int t_index, .int t_answer, .int t_thrown_37, .ref a_t_way, .int t_went, .int t_fell]))] := hD
      refine lv_goto (tgt := 48) hx hb dX8_ceiling_40 (by decide) ?_
      obtain ⟨e0_48, e1_48⟩ := inj2 hF
      rw [← e0_48, ← e1_48] at hQ0
      rw [hQ0]
      exact ret_i hx hb hr hlocks hAe hK hP hD hS [1, 0] rfl rfl dX8_ceiling_48
  · have hF := ift hF c_9
    refine lv_aload_n hx hb dX8_ceiling_12 rfl (lv_at hl 0 rfl) ?_
    refine lv_iconst (v := 1) hx hb dX8_ceiling_13 (by decide) ?_
    obtain ⟨r_14, t_thrown_14, hq_14, hF⟩ := bn2_i hF
    refine cm_Vi (As := [.int (1 : Int32)]) (rest := []) (wr := [(a_t_now, .inl (y 0, 77, .inl t_now))]) ⟨hx, hb, hml, hown, hts⟩ (c_X8_raises l D y fl H.size a_t a_t_now a_t_tried a_t_kept a_t_saved a_t_line a_t_text a_t_told a_t_way t_undos t_isSaved t_lined t_length t_at t_order t_fault t_reason t_detail t_index t_answer (0 : Int32) t_went t_fell (1 : Int32) r_14 t_thrown_14 hq_14) (cwV 1 hts gX8_ceiling_X8_raises rfl rfl rfl (by decide +kernel) ⟨Nat.le_of_ble_eq_true rfl, Nat.le_of_ble_eq_true rfl⟩) hK hP hD hS hA [0] [1] rfl rfl rfl rfl (by decide) rfl rfl rfl hl.1 rfl (Nat.le_of_ble_eq_true rfl) dX8_ceiling_14 ⟨Nat.le_of_ble_eq_true rfl, Nat.le_of_ble_eq_true rfl⟩ (fun H locs hP hD hS => ?_)
    have hP : va_P D vwCl [(a_t_now, .inl (y 0, 77, .inl t_now)), (a_t, .inr (12, [.ref a_t_now, .ref a_t_tried, .ref a_t_kept, .int t_undos, .ref a_t_saved, .int t_isSaved, .ref a_t_line, .int t_lined, .ref a_t_text, .int t_length, .int t_at, .int t_order, .ref a_t_told, .int t_fault, .int t_reason, .int t_detail, .int t_index, .int t_answer, .int t_thrown_14, .ref a_t_way, .int t_went, .int t_fell]))] H := hP
    have hD : va_D A [(a_t_now, .inl (y 0, 77, .inl t_now)), (a_t, .inr (12, [.ref a_t_now, .ref a_t_tried, .ref a_t_kept, .int t_undos, .ref a_t_saved, .int t_isSaved, .ref a_t_line, .int t_lined, .ref a_t_text, .int t_length, .int t_at, .int t_order, .ref a_t_told, .int t_fault, .int t_reason, .int t_detail, .int t_index, .int t_answer, .int t_thrown_14, .ref a_t_way, .int t_went, .int t_fell]))] := hD
    obtain ⟨e0_17, e1_17⟩ := inj2 hF
    rw [← e0_17, ← e1_17] at hQ0
    rw [hQ0]
    exact ret_i hx hb hr hlocks hAe hK hP hD hS [1, 0] rfl rfl dX8_ceiling_17
def F_X8_count (fl : Nat) (t_thrown : Int32) (t_now : Nat → Int32) (p1 : Int32) (p2 : Int32) : Option (Int32 × Int32) := bn (F_X8_isRange fl p1 p2) fun r_7 => if r_7 = 0 then (bn2 (F_X8_raises fl (0 : Int32) (1 : Int32)) fun r_31 t_thrown_31 => some (r_31, t_thrown_31)) else (bn (F_X8_lower fl t_now p2 (1 : Int32)) fun r_16 => bn (F_X8_lower fl t_now p1 (0 : Int32)) fun r_22 => some (r_16 - r_22, (0 : Int32)))
theorem iX8_count_X8 : ∀ w ∈ u_ws RX8 TX8 22, w ∈ wsX8_count := fun w h => List.mem_cons_of_mem _ (List.mem_append_left _ (List.mem_append_right _ h))
set_option maxHeartbeats 4000000 in
set_option maxRecDepth 100000 in
theorem c_X8_count (l : Launch) (D : va_G) (y : Nat → ClassId) (fl : Nat) (sz : Nat) (a_t : Nat) (a_t_now : Nat) (a_t_tried : Nat) (a_t_kept : Nat) (a_t_saved : Nat) (a_t_line : Nat) (a_t_text : Nat) (a_t_told : Nat) (a_t_way : Nat) (t_undos : Int32) (t_isSaved : Int32) (t_lined : Int32) (t_length : Int32) (t_at : Int32) (t_order : Int32) (t_fault : Int32) (t_reason : Int32) (t_detail : Int32) (t_index : Int32) (t_answer : Int32) (t_thrown : Int32) (t_went : Int32) (t_fell : Int32) (t_now : Nat → Int32) (p1 : Int32) (p2 : Int32) (r : Int32) (t_thrown' : Int32) (hF : F_X8_count fl t_thrown t_now p1 p2 = some (r, t_thrown')) : Met l yX8_count wsX8_count (rmq 3 63) (wrP D y [(a_t, .inr (12, [.ref a_t_now, .ref a_t_tried, .ref a_t_kept, .int t_undos, .ref a_t_saved, .int t_isSaved, .ref a_t_line, .int t_lined, .ref a_t_text, .int t_length, .int t_at, .int t_order, .ref a_t_told, .int t_fault, .int t_reason, .int t_detail, .int t_index, .int t_answer, .int t_thrown, .ref a_t_way, .int t_went, .int t_fell])), (a_t_now, .inl (y 0, 77, .inl t_now))] sz [.ref a_t, .int p1, .int p2]) (wQi D y r [(a_t, .inr (12, [.ref a_t_now, .ref a_t_tried, .ref a_t_kept, .int t_undos, .ref a_t_saved, .int t_isSaved, .ref a_t_line, .int t_lined, .ref a_t_text, .int t_length, .int t_at, .int t_order, .ref a_t_told, .int t_fault, .int t_reason, .int t_detail, .int t_index, .int t_answer, .int t_thrown', .ref a_t_way, .int t_went, .int t_fell])), (a_t_now, .inl (y 0, 77, .inl t_now))] [(a_t, .inr (12, [.ref a_t_now, .ref a_t_tried, .ref a_t_kept, .int t_undos, .ref a_t_saved, .int t_isSaved, .ref a_t_line, .int t_lined, .ref a_t_text, .int t_length, .int t_at, .int t_order, .ref a_t_told, .int t_fault, .int t_reason, .int t_detail, .int t_index, .int t_answer, .int t_thrown, .ref a_t_way, .int t_went, .int t_fell])), (a_t_now, .inl (y 0, 77, .inl t_now))] sz) 0 0 (va_A [(a_t, .inr (12, [.ref a_t_now, .ref a_t_tried, .ref a_t_kept, .int t_undos, .ref a_t_saved, .int t_isSaved, .ref a_t_line, .int t_lined, .ref a_t_text, .int t_length, .int t_at, .int t_order, .ref a_t_told, .int t_fault, .int t_reason, .int t_detail, .int t_index, .int t_answer, .int t_thrown, .ref a_t_way, .int t_went, .int t_fell])), (a_t_now, .inl (y 0, 77, .inl t_now))] sz) := by
  refine Met.ofW (cc := cX8_count) (maxL := 3) (ret := (some .int)) (by decide) rfl ?_
  intro p e s m args below meth c s₁ B hml hv
  obtain ⟨hav, hsz, hP, hK, hD0⟩ := hv
  have hx := B.exec
  have hb := B.bytes
  have hr := B.returns
  have hts := atoms_spec (ws := wsX8_count) B.pre
  have hown : s.vm.findClass RX8 = some m.cls := findClass_of_methodNamed B.named
  have hlocks := B.notSynchronized
  subst hsz
  have hD := hD0.self (sz := s.heap.size)
  obtain ⟨A, hAe⟩ : ∃ A : Nat → Prop, va_A [(a_t, .inr (12, [.ref a_t_now, .ref a_t_tried, .ref a_t_kept, .int t_undos, .ref a_t_saved, .int t_isSaved, .ref a_t_line, .int t_lined, .ref a_t_text, .int t_length, .int t_at, .int t_order, .ref a_t_told, .int t_fault, .int t_reason, .int t_detail, .int t_index, .int t_answer, .int t_thrown, .ref a_t_way, .int t_went, .int t_fell])), (a_t_now, .inl (y 0, 77, .inl t_now))] s.heap.size = A := ⟨_, rfl⟩
  rw [hAe] at hD
  have hA : ∀ q, s.heap.size ≤ q → A q := fun q h => by rw [← hAe]; exact Or.inr h
  have hS : va_S A s.heap s.heap [] := va_S.rf
  refine W_q (R1 := (rmq 3 63)) rfl (fun Q0 hQ0 => ?_)
  unfold F_X8_count at hF
  refine W_entry hav (Nat.le_of_ble_eq_true rfl) (fun ls hl => ?_)
  have hl : lv_has ls 3 [(0, .ref a_t), (1, .int p1), (2, .int p2)] := hl
  refine lv_aload_n hx hb dX8_count_0 rfl (lv_at hl 0 rfl) ?_
  refine lv_iconst (v := 0) hx hb dX8_count_1 (by decide) ?_
  refine va_put (D := D) (ci := 12) (v := .int (0 : Int32)) (ty := .int) (C := RX8) (T := TX8) (N := 22) hx hb hts iX8_count_X8 tyX8 tyX8_ok nmX8 hown hK hP hD hS 0 rfl rfl 18 (by decide) (hts (.fieldLink RX8 39 "SkipArchiveModel" "thrown" "I") (List.mem_of_getElem? (i := 1) rfl)) (fun _ h9 => h9) rfl (by decide +kernel) rfl rfl (Nat.le_of_ble_eq_true rfl) dX8_count_2 (fun H locs hP hD hS => ?_)
  have hP : va_P D vwCl [(a_t, .inr (12, [.ref a_t_now, .ref a_t_tried, .ref a_t_kept, .int t_undos, .ref a_t_saved, .int t_isSaved, .ref a_t_line, .int t_lined, .ref a_t_text, .int t_length, .int t_at, .int t_order, .ref a_t_told, .int t_fault, .int t_reason, .int t_detail, .int t_index, .int t_answer, .int (0 : Int32), .ref a_t_way, .int t_went, .int t_fell])), (a_t_now, .inl (y 0, 77, .inl t_now))] H := hP
  have hD : va_D A [(a_t, .inr (12, [.ref a_t_now, .ref a_t_tried, .ref a_t_kept, .int t_undos, .ref a_t_saved, .int t_isSaved, .ref a_t_line, .int t_lined, .ref a_t_text, .int t_length, .int t_at, .int t_order, .ref a_t_told, .int t_fault, .int t_reason, .int t_detail, .int t_index, .int t_answer, .int (0 : Int32), .ref a_t_way, .int t_went, .int t_fell])), (a_t_now, .inl (y 0, 77, .inl t_now))] := hD
  refine lv_iload_n hx hb dX8_count_5 rfl (lv_at hl 1 rfl) ?_
  refine lv_iload_n hx hb dX8_count_6 rfl (lv_at hl 2 rfl) ?_
  obtain ⟨r_7, hq_7, hF⟩ := bn_i hF
  refine cr_S (As := [.int p1, .int p2]) (rest := []) ⟨hx, hb, hml, hown, hts⟩ (c_X8_isRange l D y fl p1 p2 r_7 hq_7) (va_cwS 2 hts gX8_count_X8_isRange rfl rfl rfl (by decide +kernel) ⟨Nat.le_of_ble_eq_true rfl, Nat.le_of_ble_eq_true rfl⟩) hK hP [] rfl rfl hl.1 rfl (Nat.le_of_ble_eq_true rfl) dX8_count_7 ⟨Nat.le_of_ble_eq_true rfl, Nat.le_of_ble_eq_true rfl⟩ ?_
  refine lv_if_eq (tgt := 29) hx hb dX8_count_10 (by decide) (fun c_10 => ?_) (fun c_10 => ?_)
  · have hF := ift hF c_10
    refine lv_aload_n hx hb dX8_count_29 rfl (lv_at hl 0 rfl) ?_
    refine lv_iconst (v := 1) hx hb dX8_count_30 (by decide) ?_
    obtain ⟨r_31, t_thrown_31, hq_31, hF⟩ := bn2_i hF
    refine cm_Vi (As := [.int (1 : Int32)]) (rest := []) (wr := [(a_t_now, .inl (y 0, 77, .inl t_now))]) ⟨hx, hb, hml, hown, hts⟩ (c_X8_raises l D y fl H.size a_t a_t_now a_t_tried a_t_kept a_t_saved a_t_line a_t_text a_t_told a_t_way t_undos t_isSaved t_lined t_length t_at t_order t_fault t_reason t_detail t_index t_answer (0 : Int32) t_went t_fell (1 : Int32) r_31 t_thrown_31 hq_31) (cwV 1 hts gX8_count_X8_raises rfl rfl rfl (by decide +kernel) ⟨Nat.le_of_ble_eq_true rfl, Nat.le_of_ble_eq_true rfl⟩) hK hP hD hS hA [0] [1] rfl rfl rfl rfl (by decide) rfl rfl rfl hl.1 rfl (Nat.le_of_ble_eq_true rfl) dX8_count_31 ⟨Nat.le_of_ble_eq_true rfl, Nat.le_of_ble_eq_true rfl⟩ (fun H locs hP hD hS => ?_)
    have hP : va_P D vwCl [(a_t_now, .inl (y 0, 77, .inl t_now)), (a_t, .inr (12, [.ref a_t_now, .ref a_t_tried, .ref a_t_kept, .int t_undos, .ref a_t_saved, .int t_isSaved, .ref a_t_line, .int t_lined, .ref a_t_text, .int t_length, .int t_at, .int t_order, .ref a_t_told, .int t_fault, .int t_reason, .int t_detail, .int t_index, .int t_answer, .int t_thrown_31, .ref a_t_way, .int t_went, .int t_fell]))] H := hP
    have hD : va_D A [(a_t_now, .inl (y 0, 77, .inl t_now)), (a_t, .inr (12, [.ref a_t_now, .ref a_t_tried, .ref a_t_kept, .int t_undos, .ref a_t_saved, .int t_isSaved, .ref a_t_line, .int t_lined, .ref a_t_text, .int t_length, .int t_at, .int t_order, .ref a_t_told, .int t_fault, .int t_reason, .int t_detail, .int t_index, .int t_answer, .int t_thrown_31, .ref a_t_way, .int t_went, .int t_fell]))] := hD
    obtain ⟨e0_34, e1_34⟩ := inj2 hF
    rw [← e0_34, ← e1_34] at hQ0
    rw [hQ0]
    exact ret_i hx hb hr hlocks hAe hK hP hD hS [1, 0] rfl rfl dX8_count_34
  · have hF := iff_ hF c_10
    refine lv_aload_n hx hb dX8_count_13 rfl (lv_at hl 0 rfl) ?_
    refine lv_iload_n hx hb dX8_count_14 rfl (lv_at hl 2 rfl) ?_
    refine lv_iconst (v := 1) hx hb dX8_count_15 (by decide) ?_
    obtain ⟨r_16, hq_16, hF⟩ := bn_i hF
    refine cr_V (As := [.int p2, .int (1 : Int32)]) (rest := []) ⟨hx, hb, hml, hown, hts⟩ (c_X8_lower l D y fl a_t a_t_now a_t_tried a_t_kept a_t_saved a_t_line a_t_text a_t_told a_t_way t_undos t_isSaved t_lined t_length t_at t_order t_fault t_reason t_detail t_index t_answer (0 : Int32) t_went t_fell t_now p2 (1 : Int32) r_16 hq_16) (cwV 2 hts gX8_count_X8_lower rfl rfl rfl (by decide +kernel) ⟨Nat.le_of_ble_eq_true rfl, Nat.le_of_ble_eq_true rfl⟩) hK hP [0, 1] rfl rfl rfl rfl hl.1 rfl (Nat.le_of_ble_eq_true rfl) dX8_count_16 ⟨Nat.le_of_ble_eq_true rfl, Nat.le_of_ble_eq_true rfl⟩ ?_
    refine lv_aload_n hx hb dX8_count_19 rfl (lv_at hl 0 rfl) ?_
    refine lv_iload_n hx hb dX8_count_20 rfl (lv_at hl 1 rfl) ?_
    refine lv_iconst (v := 0) hx hb dX8_count_21 (by decide) ?_
    obtain ⟨r_22, hq_22, hF⟩ := bn_i hF
    refine cr_V (As := [.int p1, .int (0 : Int32)]) (rest := [.int r_16]) ⟨hx, hb, hml, hown, hts⟩ (c_X8_lower l D y fl a_t a_t_now a_t_tried a_t_kept a_t_saved a_t_line a_t_text a_t_told a_t_way t_undos t_isSaved t_lined t_length t_at t_order t_fault t_reason t_detail t_index t_answer (0 : Int32) t_went t_fell t_now p1 (0 : Int32) r_22 hq_22) (cwV 2 hts gX8_count_X8_lower rfl rfl rfl (by decide +kernel) ⟨Nat.le_of_ble_eq_true rfl, Nat.le_of_ble_eq_true rfl⟩) hK hP [0, 1] rfl rfl rfl rfl hl.1 rfl (Nat.le_of_ble_eq_true rfl) dX8_count_22 ⟨Nat.le_of_ble_eq_true rfl, Nat.le_of_ble_eq_true rfl⟩ ?_
    refine lv_isub hx hb dX8_count_25 ?_
    refine lv_goto (tgt := 34) hx hb dX8_count_26 (by decide) ?_
    obtain ⟨e0_34, e1_34⟩ := inj2 hF
    rw [← e0_34, ← e1_34] at hQ0
    rw [hQ0]
    exact ret_i hx hb hr hlocks hAe hK hP hD hS [0, 1] rfl rfl dX8_count_34
def F_X8_countAgain (fl : Nat) (t_thrown : Int32) (t_now : Nat → Int32) (p1 : Int32) (p2 : Int32) : Option (Int32 × Int32) := bn2 (F_X8_count fl t_thrown t_now p1 p2) fun r_3 t_thrown_3 => some (r_3, t_thrown_3)
set_option maxHeartbeats 4000000 in
set_option maxRecDepth 100000 in
theorem c_X8_countAgain (l : Launch) (D : va_G) (y : Nat → ClassId) (fl : Nat) (sz : Nat) (a_t : Nat) (a_t_now : Nat) (a_t_tried : Nat) (a_t_kept : Nat) (a_t_saved : Nat) (a_t_line : Nat) (a_t_text : Nat) (a_t_told : Nat) (a_t_way : Nat) (t_undos : Int32) (t_isSaved : Int32) (t_lined : Int32) (t_length : Int32) (t_at : Int32) (t_order : Int32) (t_fault : Int32) (t_reason : Int32) (t_detail : Int32) (t_index : Int32) (t_answer : Int32) (t_thrown : Int32) (t_went : Int32) (t_fell : Int32) (t_now : Nat → Int32) (p1 : Int32) (p2 : Int32) (r : Int32) (t_thrown' : Int32) (hF : F_X8_countAgain fl t_thrown t_now p1 p2 = some (r, t_thrown')) : Met l yX8_countAgain wsX8_countAgain (rmq 4 85) (wrP D y [(a_t, .inr (12, [.ref a_t_now, .ref a_t_tried, .ref a_t_kept, .int t_undos, .ref a_t_saved, .int t_isSaved, .ref a_t_line, .int t_lined, .ref a_t_text, .int t_length, .int t_at, .int t_order, .ref a_t_told, .int t_fault, .int t_reason, .int t_detail, .int t_index, .int t_answer, .int t_thrown, .ref a_t_way, .int t_went, .int t_fell])), (a_t_now, .inl (y 0, 77, .inl t_now))] sz [.ref a_t, .int p1, .int p2]) (wQi D y r [(a_t, .inr (12, [.ref a_t_now, .ref a_t_tried, .ref a_t_kept, .int t_undos, .ref a_t_saved, .int t_isSaved, .ref a_t_line, .int t_lined, .ref a_t_text, .int t_length, .int t_at, .int t_order, .ref a_t_told, .int t_fault, .int t_reason, .int t_detail, .int t_index, .int t_answer, .int t_thrown', .ref a_t_way, .int t_went, .int t_fell])), (a_t_now, .inl (y 0, 77, .inl t_now))] [(a_t, .inr (12, [.ref a_t_now, .ref a_t_tried, .ref a_t_kept, .int t_undos, .ref a_t_saved, .int t_isSaved, .ref a_t_line, .int t_lined, .ref a_t_text, .int t_length, .int t_at, .int t_order, .ref a_t_told, .int t_fault, .int t_reason, .int t_detail, .int t_index, .int t_answer, .int t_thrown, .ref a_t_way, .int t_went, .int t_fell])), (a_t_now, .inl (y 0, 77, .inl t_now))] sz) 0 0 (va_A [(a_t, .inr (12, [.ref a_t_now, .ref a_t_tried, .ref a_t_kept, .int t_undos, .ref a_t_saved, .int t_isSaved, .ref a_t_line, .int t_lined, .ref a_t_text, .int t_length, .int t_at, .int t_order, .ref a_t_told, .int t_fault, .int t_reason, .int t_detail, .int t_index, .int t_answer, .int t_thrown, .ref a_t_way, .int t_went, .int t_fell])), (a_t_now, .inl (y 0, 77, .inl t_now))] sz) := by
  refine Met.ofW (cc := cX8_countAgain) (maxL := 3) (ret := (some .int)) (by decide) rfl ?_
  intro p e s m args below meth c s₁ B hml hv
  obtain ⟨hav, hsz, hP, hK, hD0⟩ := hv
  have hx := B.exec
  have hb := B.bytes
  have hr := B.returns
  have hts := atoms_spec (ws := wsX8_countAgain) B.pre
  have hown : s.vm.findClass RX8 = some m.cls := findClass_of_methodNamed B.named
  have hlocks := B.notSynchronized
  subst hsz
  have hD := hD0.self (sz := s.heap.size)
  obtain ⟨A, hAe⟩ : ∃ A : Nat → Prop, va_A [(a_t, .inr (12, [.ref a_t_now, .ref a_t_tried, .ref a_t_kept, .int t_undos, .ref a_t_saved, .int t_isSaved, .ref a_t_line, .int t_lined, .ref a_t_text, .int t_length, .int t_at, .int t_order, .ref a_t_told, .int t_fault, .int t_reason, .int t_detail, .int t_index, .int t_answer, .int t_thrown, .ref a_t_way, .int t_went, .int t_fell])), (a_t_now, .inl (y 0, 77, .inl t_now))] s.heap.size = A := ⟨_, rfl⟩
  rw [hAe] at hD
  have hA : ∀ q, s.heap.size ≤ q → A q := fun q h => by rw [← hAe]; exact Or.inr h
  have hS : va_S A s.heap s.heap [] := va_S.rf
  refine W_q (R1 := (rmq 4 85)) rfl (fun Q0 hQ0 => ?_)
  unfold F_X8_countAgain at hF
  refine W_entry hav (Nat.le_of_ble_eq_true rfl) (fun ls hl => ?_)
  have hl : lv_has ls 3 [(0, .ref a_t), (1, .int p1), (2, .int p2)] := hl
  refine lv_aload_n hx hb dX8_countAgain_0 rfl (lv_at hl 0 rfl) ?_
  refine lv_iload_n hx hb dX8_countAgain_1 rfl (lv_at hl 1 rfl) ?_
  refine lv_iload_n hx hb dX8_countAgain_2 rfl (lv_at hl 2 rfl) ?_
  obtain ⟨r_3, t_thrown_3, hq_3, hF⟩ := bn2_i hF
  refine cm_Vi (As := [.int p1, .int p2]) (rest := []) (wr := []) ⟨hx, hb, hml, hown, hts⟩ (c_X8_count l D y fl s.heap.size a_t a_t_now a_t_tried a_t_kept a_t_saved a_t_line a_t_text a_t_told a_t_way t_undos t_isSaved t_lined t_length t_at t_order t_fault t_reason t_detail t_index t_answer t_thrown t_went t_fell t_now p1 p2 r_3 t_thrown_3 hq_3) (cwV 2 hts gX8_countAgain_X8_count rfl rfl rfl (by decide +kernel) ⟨Nat.le_of_ble_eq_true rfl, Nat.le_of_ble_eq_true rfl⟩) hK hP hD hS hA [0, 1] [] rfl rfl rfl rfl (by decide) rfl rfl rfl hl.1 rfl (Nat.le_of_ble_eq_true rfl) dX8_countAgain_3 ⟨Nat.le_of_ble_eq_true rfl, Nat.le_of_ble_eq_true rfl⟩ (fun H locs hP hD hS => ?_)
  have hP : va_P D vwCl [(a_t, .inr (12, [.ref a_t_now, .ref a_t_tried, .ref a_t_kept, .int t_undos, .ref a_t_saved, .int t_isSaved, .ref a_t_line, .int t_lined, .ref a_t_text, .int t_length, .int t_at, .int t_order, .ref a_t_told, .int t_fault, .int t_reason, .int t_detail, .int t_index, .int t_answer, .int t_thrown_3, .ref a_t_way, .int t_went, .int t_fell])), (a_t_now, .inl (y 0, 77, .inl t_now))] H := hP
  have hD : va_D A [(a_t, .inr (12, [.ref a_t_now, .ref a_t_tried, .ref a_t_kept, .int t_undos, .ref a_t_saved, .int t_isSaved, .ref a_t_line, .int t_lined, .ref a_t_text, .int t_length, .int t_at, .int t_order, .ref a_t_told, .int t_fault, .int t_reason, .int t_detail, .int t_index, .int t_answer, .int t_thrown_3, .ref a_t_way, .int t_went, .int t_fell])), (a_t_now, .inl (y 0, 77, .inl t_now))] := hD
  obtain ⟨e0_6, e1_6⟩ := inj2 hF
  rw [← e0_6, ← e1_6] at hQ0
  rw [hQ0]
  exact ret_i hx hb hr hlocks hAe hK hP hD hS [0, 1] rfl rfl dX8_countAgain_6
def F_X8_weightIn_29 (fl : Nat) (t_now : Nat → Int32) : Nat → Int32 → Int32 → Int32 → Int32 → Int32 → Option (Int32 × Int32)
  | 0, _, _, _, _, _ => none
  | n + 1, t_thrown_w, x1, x2, x3, x4 => bn (F_X8_lower fl t_now x2 (1 : Int32)) fun r_34 => if r_34 ≤ x4 then (some (x3, t_thrown_w)) else (bn (F_X8_weight fl t_now x4) fun r_44 => F_X8_weightIn_29 fl t_now n t_thrown_w x1 x2 (x3 + r_44) (x4 + (1 : Int32)))
def F_X8_weightIn (fl : Nat) (t_thrown : Int32) (t_now : Nat → Int32) (p1 : Int32) (p2 : Int32) : Option (Int32 × Int32) := bn (F_X8_isRange fl p1 p2) fun r_7 => if r_7 = 0 then (bn2 (F_X8_raises fl (0 : Int32) (1 : Int32)) fun r_15 t_thrown_15 => some (r_15, t_thrown_15)) else (bn (F_X8_lower fl t_now p1 (0 : Int32)) fun r_24 => F_X8_weightIn_29 fl t_now fl (0 : Int32) p1 p2 (0 : Int32) r_24)
theorem iX8_weightIn_X8 : ∀ w ∈ u_ws RX8 TX8 22, w ∈ wsX8_weightIn := fun w h => List.mem_cons_of_mem _ (List.mem_append_left _ (List.mem_append_right _ h))
set_option maxHeartbeats 4000000 in
set_option maxRecDepth 100000 in
theorem c_X8_weightIn (l : Launch) (D : va_G) (y : Nat → ClassId) (fl : Nat) (sz : Nat) (a_t : Nat) (a_t_now : Nat) (a_t_tried : Nat) (a_t_kept : Nat) (a_t_saved : Nat) (a_t_line : Nat) (a_t_text : Nat) (a_t_told : Nat) (a_t_way : Nat) (t_undos : Int32) (t_isSaved : Int32) (t_lined : Int32) (t_length : Int32) (t_at : Int32) (t_order : Int32) (t_fault : Int32) (t_reason : Int32) (t_detail : Int32) (t_index : Int32) (t_answer : Int32) (t_thrown : Int32) (t_went : Int32) (t_fell : Int32) (t_now : Nat → Int32) (p1 : Int32) (p2 : Int32) (r : Int32) (t_thrown' : Int32) (hF : F_X8_weightIn fl t_thrown t_now p1 p2 = some (r, t_thrown')) : Met l yX8_weightIn wsX8_weightIn (rmq 3 63) (wrP D y [(a_t, .inr (12, [.ref a_t_now, .ref a_t_tried, .ref a_t_kept, .int t_undos, .ref a_t_saved, .int t_isSaved, .ref a_t_line, .int t_lined, .ref a_t_text, .int t_length, .int t_at, .int t_order, .ref a_t_told, .int t_fault, .int t_reason, .int t_detail, .int t_index, .int t_answer, .int t_thrown, .ref a_t_way, .int t_went, .int t_fell])), (a_t_now, .inl (y 0, 77, .inl t_now))] sz [.ref a_t, .int p1, .int p2]) (wQi D y r [(a_t, .inr (12, [.ref a_t_now, .ref a_t_tried, .ref a_t_kept, .int t_undos, .ref a_t_saved, .int t_isSaved, .ref a_t_line, .int t_lined, .ref a_t_text, .int t_length, .int t_at, .int t_order, .ref a_t_told, .int t_fault, .int t_reason, .int t_detail, .int t_index, .int t_answer, .int t_thrown', .ref a_t_way, .int t_went, .int t_fell])), (a_t_now, .inl (y 0, 77, .inl t_now))] [(a_t, .inr (12, [.ref a_t_now, .ref a_t_tried, .ref a_t_kept, .int t_undos, .ref a_t_saved, .int t_isSaved, .ref a_t_line, .int t_lined, .ref a_t_text, .int t_length, .int t_at, .int t_order, .ref a_t_told, .int t_fault, .int t_reason, .int t_detail, .int t_index, .int t_answer, .int t_thrown, .ref a_t_way, .int t_went, .int t_fell])), (a_t_now, .inl (y 0, 77, .inl t_now))] sz) 0 0 (va_A [(a_t, .inr (12, [.ref a_t_now, .ref a_t_tried, .ref a_t_kept, .int t_undos, .ref a_t_saved, .int t_isSaved, .ref a_t_line, .int t_lined, .ref a_t_text, .int t_length, .int t_at, .int t_order, .ref a_t_told, .int t_fault, .int t_reason, .int t_detail, .int t_index, .int t_answer, .int t_thrown, .ref a_t_way, .int t_went, .int t_fell])), (a_t_now, .inl (y 0, 77, .inl t_now))] sz) := by
  refine Met.ofW (cc := cX8_weightIn) (maxL := 5) (ret := (some .int)) (by decide) rfl ?_
  intro p e s m args below meth c s₁ B hml hv
  obtain ⟨hav, hsz, hP, hK, hD0⟩ := hv
  have hx := B.exec
  have hb := B.bytes
  have hr := B.returns
  have hts := atoms_spec (ws := wsX8_weightIn) B.pre
  have hown : s.vm.findClass RX8 = some m.cls := findClass_of_methodNamed B.named
  have hlocks := B.notSynchronized
  subst hsz
  have hD := hD0.self (sz := s.heap.size)
  obtain ⟨A, hAe⟩ : ∃ A : Nat → Prop, va_A [(a_t, .inr (12, [.ref a_t_now, .ref a_t_tried, .ref a_t_kept, .int t_undos, .ref a_t_saved, .int t_isSaved, .ref a_t_line, .int t_lined, .ref a_t_text, .int t_length, .int t_at, .int t_order, .ref a_t_told, .int t_fault, .int t_reason, .int t_detail, .int t_index, .int t_answer, .int t_thrown, .ref a_t_way, .int t_went, .int t_fell])), (a_t_now, .inl (y 0, 77, .inl t_now))] s.heap.size = A := ⟨_, rfl⟩
  rw [hAe] at hD
  have hA : ∀ q, s.heap.size ≤ q → A q := fun q h => by rw [← hAe]; exact Or.inr h
  have hS : va_S A s.heap s.heap [] := va_S.rf
  refine W_q (R1 := (rmq 3 63)) rfl (fun Q0 hQ0 => ?_)
  unfold F_X8_weightIn at hF
  have k_29 : ∀ (n : Nat) (t_thrown_w : Int32) (x1 : Int32) (x2 : Int32) (x3 : Int32) (x4 : Int32), F_X8_weightIn_29 fl t_now n t_thrown_w x1 x2 x3 x4 = some (r, t_thrown') → ∀ (H : Heap) (locs : List Loc), va_P D vwCl [(a_t, .inr (12, [.ref a_t_now, .ref a_t_tried, .ref a_t_kept, .int t_undos, .ref a_t_saved, .int t_isSaved, .ref a_t_line, .int t_lined, .ref a_t_text, .int t_length, .int t_at, .int t_order, .ref a_t_told, .int t_fault, .int t_reason, .int t_detail, .int t_index, .int t_answer, .int t_thrown_w, .ref a_t_way, .int t_went, .int t_fell])), (a_t_now, .inl (y 0, 77, .inl t_now))] H → va_D A [(a_t, .inr (12, [.ref a_t_now, .ref a_t_tried, .ref a_t_kept, .int t_undos, .ref a_t_saved, .int t_isSaved, .ref a_t_line, .int t_lined, .ref a_t_text, .int t_length, .int t_at, .int t_order, .ref a_t_told, .int t_fault, .int t_reason, .int t_detail, .int t_index, .int t_answer, .int t_thrown_w, .ref a_t_way, .int t_went, .int t_fell])), (a_t_now, .inl (y 0, 77, .inl t_now))] → va_S A s.heap H locs → ∀ (ls : Array Slot), lv_has ls 5 [(0, .ref a_t), (1, .int x1), (2, .int x2), (3, .int x3), (4, .int x4)] → W p l e (rmq 3 63) s m args below meth c H locs 0 0 Q0 (F0 m 29 ls []) := by
    intro n
    induction n with
    | zero => intro t_thrown_w x1 x2 x3 x4 hF; rw [F_X8_weightIn_29] at hF; cases hF
    | succ n ih =>
      intro t_thrown_w x1 x2 x3 x4 hF H locs hP hD hS ls hl
      rw [F_X8_weightIn_29] at hF
      refine lv_iload hx hb dX8_weightIn_29 (lv_at hl 4 rfl) ?_
      refine lv_aload_n hx hb dX8_weightIn_31 rfl (lv_at hl 0 rfl) ?_
      refine lv_iload_n hx hb dX8_weightIn_32 rfl (lv_at hl 2 rfl) ?_
      refine lv_iconst (v := 1) hx hb dX8_weightIn_33 (by decide) ?_
      obtain ⟨r_34, hq_34, hF⟩ := bn_i hF
      refine cr_V (As := [.int x2, .int (1 : Int32)]) (rest := [.int x4]) ⟨hx, hb, hml, hown, hts⟩ (c_X8_lower l D y fl a_t a_t_now a_t_tried a_t_kept a_t_saved a_t_line a_t_text a_t_told a_t_way t_undos t_isSaved t_lined t_length t_at t_order t_fault t_reason t_detail t_index t_answer t_thrown_w t_went t_fell t_now x2 (1 : Int32) r_34 hq_34) (cwV 2 hts gX8_weightIn_X8_lower rfl rfl rfl (by decide +kernel) ⟨Nat.le_of_ble_eq_true rfl, Nat.le_of_ble_eq_true rfl⟩) hK hP [0, 1] rfl rfl rfl rfl hl.1 rfl (Nat.le_of_ble_eq_true rfl) dX8_weightIn_34 ⟨Nat.le_of_ble_eq_true rfl, Nat.le_of_ble_eq_true rfl⟩ ?_
      refine lv_icmp_ge (tgt := 55) hx hb dX8_weightIn_37 (by decide) (fun c_37 => ?_) (fun c_37 => ?_)
      · have hF := ift hF c_37
        refine lv_iload_n hx hb dX8_weightIn_55 rfl (lv_at hl 3 rfl) ?_
        obtain ⟨e0_56, e1_56⟩ := inj2 hF
        rw [← e0_56, ← e1_56] at hQ0
        rw [hQ0]
        exact ret_i hx hb hr hlocks hAe hK hP hD hS [0, 1] rfl rfl dX8_weightIn_56
      · have hF := iff_ hF c_37
        refine lv_iload_n hx hb dX8_weightIn_40 rfl (lv_at hl 3 rfl) ?_
        refine lv_aload_n hx hb dX8_weightIn_41 rfl (lv_at hl 0 rfl) ?_
        refine lv_iload hx hb dX8_weightIn_42 (lv_at hl 4 rfl) ?_
        obtain ⟨r_44, hq_44, hF⟩ := bn_i hF
        refine cr_V (As := [.int x4]) (rest := [.int x3]) ⟨hx, hb, hml, hown, hts⟩ (c_X8_weight l D y fl a_t a_t_now a_t_tried a_t_kept a_t_saved a_t_line a_t_text a_t_told a_t_way t_undos t_isSaved t_lined t_length t_at t_order t_fault t_reason t_detail t_index t_answer t_thrown_w t_went t_fell t_now x4 r_44 hq_44) (cwV 1 hts gX8_weightIn_X8_weight rfl rfl rfl (by decide +kernel) ⟨Nat.le_of_ble_eq_true rfl, Nat.le_of_ble_eq_true rfl⟩) hK hP [0, 1] rfl rfl rfl rfl hl.1 rfl (Nat.le_of_ble_eq_true rfl) dX8_weightIn_44 ⟨Nat.le_of_ble_eq_true rfl, Nat.le_of_ble_eq_true rfl⟩ ?_
        refine lv_iadd hx hb dX8_weightIn_47 ?_
        refine lv_istore_n (lv' := [(3, .int (x3 + r_44)), (0, .ref a_t), (1, .int x1), (2, .int x2), (4, .int x4)]) hx hb dX8_weightIn_48 rfl hl (by decide) rfl (fun ls hl => ?_)
        refine lv_iinc (v := x4 + (1 : Int32)) (lv' := [(4, .int (x4 + (1 : Int32))), (3, .int (x3 + r_44)), (0, .ref a_t), (1, .int x1), (2, .int x2)]) hx hb dX8_weightIn_49 hl (k := 4) rfl rfl (by decide) rfl (fun ls hl => ?_)
        refine lv_goto (tgt := 29) hx hb dX8_weightIn_52 (by decide) ?_
        exact ih t_thrown_w x1 x2 (x3 + r_44) (x4 + (1 : Int32)) hF _ _ hP hD hS ls (lv_sub hl [2, 3, 4, 1, 0] rfl)
  refine W_entry hav (Nat.le_of_ble_eq_true rfl) (fun ls hl => ?_)
  have hl : lv_has ls 5 [(0, .ref a_t), (1, .int p1), (2, .int p2)] := hl
  refine lv_aload_n hx hb dX8_weightIn_0 rfl (lv_at hl 0 rfl) ?_
  refine lv_iconst (v := 0) hx hb dX8_weightIn_1 (by decide) ?_
  refine va_put (D := D) (ci := 12) (v := .int (0 : Int32)) (ty := .int) (C := RX8) (T := TX8) (N := 22) hx hb hts iX8_weightIn_X8 tyX8 tyX8_ok nmX8 hown hK hP hD hS 0 rfl rfl 18 (by decide) (hts (.fieldLink RX8 39 "SkipArchiveModel" "thrown" "I") (List.mem_of_getElem? (i := 1) rfl)) (fun _ h9 => h9) rfl (by decide +kernel) rfl rfl (Nat.le_of_ble_eq_true rfl) dX8_weightIn_2 (fun H locs hP hD hS => ?_)
  have hP : va_P D vwCl [(a_t, .inr (12, [.ref a_t_now, .ref a_t_tried, .ref a_t_kept, .int t_undos, .ref a_t_saved, .int t_isSaved, .ref a_t_line, .int t_lined, .ref a_t_text, .int t_length, .int t_at, .int t_order, .ref a_t_told, .int t_fault, .int t_reason, .int t_detail, .int t_index, .int t_answer, .int (0 : Int32), .ref a_t_way, .int t_went, .int t_fell])), (a_t_now, .inl (y 0, 77, .inl t_now))] H := hP
  have hD : va_D A [(a_t, .inr (12, [.ref a_t_now, .ref a_t_tried, .ref a_t_kept, .int t_undos, .ref a_t_saved, .int t_isSaved, .ref a_t_line, .int t_lined, .ref a_t_text, .int t_length, .int t_at, .int t_order, .ref a_t_told, .int t_fault, .int t_reason, .int t_detail, .int t_index, .int t_answer, .int (0 : Int32), .ref a_t_way, .int t_went, .int t_fell])), (a_t_now, .inl (y 0, 77, .inl t_now))] := hD
  refine lv_iload_n hx hb dX8_weightIn_5 rfl (lv_at hl 1 rfl) ?_
  refine lv_iload_n hx hb dX8_weightIn_6 rfl (lv_at hl 2 rfl) ?_
  obtain ⟨r_7, hq_7, hF⟩ := bn_i hF
  refine cr_S (As := [.int p1, .int p2]) (rest := []) ⟨hx, hb, hml, hown, hts⟩ (c_X8_isRange l D y fl p1 p2 r_7 hq_7) (va_cwS 2 hts gX8_weightIn_X8_isRange rfl rfl rfl (by decide +kernel) ⟨Nat.le_of_ble_eq_true rfl, Nat.le_of_ble_eq_true rfl⟩) hK hP [] rfl rfl hl.1 rfl (Nat.le_of_ble_eq_true rfl) dX8_weightIn_7 ⟨Nat.le_of_ble_eq_true rfl, Nat.le_of_ble_eq_true rfl⟩ ?_
  refine lv_if_ne (tgt := 19) hx hb dX8_weightIn_10 (by decide) (fun c_10 => ?_) (fun c_10 => ?_)
  · have hF := iff_ hF c_10
    refine lv_iconst (v := 0) hx hb dX8_weightIn_19 (by decide) ?_
    refine lv_istore_n (lv' := [(3, .int (0 : Int32)), (0, .ref a_t), (1, .int p1), (2, .int p2)]) hx hb dX8_weightIn_20 rfl hl (by decide) rfl (fun ls hl => ?_)
    refine lv_aload_n hx hb dX8_weightIn_21 rfl (lv_at hl 1 rfl) ?_
    refine lv_iload_n hx hb dX8_weightIn_22 rfl (lv_at hl 2 rfl) ?_
    refine lv_iconst (v := 0) hx hb dX8_weightIn_23 (by decide) ?_
    obtain ⟨r_24, hq_24, hF⟩ := bn_i hF
    refine cr_V (As := [.int p1, .int (0 : Int32)]) (rest := []) ⟨hx, hb, hml, hown, hts⟩ (c_X8_lower l D y fl a_t a_t_now a_t_tried a_t_kept a_t_saved a_t_line a_t_text a_t_told a_t_way t_undos t_isSaved t_lined t_length t_at t_order t_fault t_reason t_detail t_index t_answer (0 : Int32) t_went t_fell t_now p1 (0 : Int32) r_24 hq_24) (cwV 2 hts gX8_weightIn_X8_lower rfl rfl rfl (by decide +kernel) ⟨Nat.le_of_ble_eq_true rfl, Nat.le_of_ble_eq_true rfl⟩) hK hP [0, 1] rfl rfl rfl rfl hl.1 rfl (Nat.le_of_ble_eq_true rfl) dX8_weightIn_24 ⟨Nat.le_of_ble_eq_true rfl, Nat.le_of_ble_eq_true rfl⟩ ?_
    refine lv_istore (lv' := [(4, .int r_24), (3, .int (0 : Int32)), (0, .ref a_t), (1, .int p1), (2, .int p2)]) hx hb dX8_weightIn_27 hl (by decide) rfl (fun ls hl => ?_)
    exact k_29 fl (0 : Int32) p1 p2 (0 : Int32) r_24 hF _ _ hP hD hS ls (lv_sub hl [2, 3, 4, 1, 0] rfl)
  · have hF := ift hF c_10
    refine lv_aload_n hx hb dX8_weightIn_13 rfl (lv_at hl 0 rfl) ?_
    refine lv_iconst (v := 1) hx hb dX8_weightIn_14 (by decide) ?_
    obtain ⟨r_15, t_thrown_15, hq_15, hF⟩ := bn2_i hF
    refine cm_Vi (As := [.int (1 : Int32)]) (rest := []) (wr := [(a_t_now, .inl (y 0, 77, .inl t_now))]) ⟨hx, hb, hml, hown, hts⟩ (c_X8_raises l D y fl H.size a_t a_t_now a_t_tried a_t_kept a_t_saved a_t_line a_t_text a_t_told a_t_way t_undos t_isSaved t_lined t_length t_at t_order t_fault t_reason t_detail t_index t_answer (0 : Int32) t_went t_fell (1 : Int32) r_15 t_thrown_15 hq_15) (cwV 1 hts gX8_weightIn_X8_raises rfl rfl rfl (by decide +kernel) ⟨Nat.le_of_ble_eq_true rfl, Nat.le_of_ble_eq_true rfl⟩) hK hP hD hS hA [0] [1] rfl rfl rfl rfl (by decide) rfl rfl rfl hl.1 rfl (Nat.le_of_ble_eq_true rfl) dX8_weightIn_15 ⟨Nat.le_of_ble_eq_true rfl, Nat.le_of_ble_eq_true rfl⟩ (fun H locs hP hD hS => ?_)
    have hP : va_P D vwCl [(a_t_now, .inl (y 0, 77, .inl t_now)), (a_t, .inr (12, [.ref a_t_now, .ref a_t_tried, .ref a_t_kept, .int t_undos, .ref a_t_saved, .int t_isSaved, .ref a_t_line, .int t_lined, .ref a_t_text, .int t_length, .int t_at, .int t_order, .ref a_t_told, .int t_fault, .int t_reason, .int t_detail, .int t_index, .int t_answer, .int t_thrown_15, .ref a_t_way, .int t_went, .int t_fell]))] H := hP
    have hD : va_D A [(a_t_now, .inl (y 0, 77, .inl t_now)), (a_t, .inr (12, [.ref a_t_now, .ref a_t_tried, .ref a_t_kept, .int t_undos, .ref a_t_saved, .int t_isSaved, .ref a_t_line, .int t_lined, .ref a_t_text, .int t_length, .int t_at, .int t_order, .ref a_t_told, .int t_fault, .int t_reason, .int t_detail, .int t_index, .int t_answer, .int t_thrown_15, .ref a_t_way, .int t_went, .int t_fell]))] := hD
    obtain ⟨e0_18, e1_18⟩ := inj2 hF
    rw [← e0_18, ← e1_18] at hQ0
    rw [hQ0]
    exact ret_i hx hb hr hlocks hAe hK hP hD hS [1, 0] rfl rfl dX8_weightIn_18
def F_X8_heaviestIn_29 (fl : Nat) (t_now : Nat → Int32) : Nat → Int32 → Int32 → Int32 → Int32 → Int32 → Option (Int32 × Int32)
  | 0, _, _, _, _, _ => none
  | n + 1, t_thrown_w, x1, x2, x3, x4 => bn (F_X8_lower fl t_now x2 (1 : Int32)) fun r_34 => if r_34 ≤ x4 then (if 0 ≤ x3 then (bn (F_X8_key fl t_now x3) fun r_81 => some (r_81, t_thrown_w)) else (bn2 (F_X8_raises fl t_thrown_w (2 : Int32)) fun r_73 t_thrown_73 => some (r_73, t_thrown_73))) else (if x3 < 0 then (F_X8_heaviestIn_29 fl t_now n t_thrown_w x1 x2 x4 (x4 + (1 : Int32))) else (bn (F_X8_weight fl t_now x4) fun r_47 => bn (F_X8_weight fl t_now x3) fun r_52 => if r_47 ≤ r_52 then (F_X8_heaviestIn_29 fl t_now n t_thrown_w x1 x2 x3 (x4 + (1 : Int32))) else (F_X8_heaviestIn_29 fl t_now n t_thrown_w x1 x2 x4 (x4 + (1 : Int32)))))
def F_X8_heaviestIn (fl : Nat) (t_thrown : Int32) (t_now : Nat → Int32) (p1 : Int32) (p2 : Int32) : Option (Int32 × Int32) := bn (F_X8_isRange fl p1 p2) fun r_7 => if r_7 = 0 then (bn2 (F_X8_raises fl (0 : Int32) (1 : Int32)) fun r_15 t_thrown_15 => some (r_15, t_thrown_15)) else (bn (F_X8_lower fl t_now p1 (0 : Int32)) fun r_24 => F_X8_heaviestIn_29 fl t_now fl (0 : Int32) p1 p2 (-1 : Int32) r_24)
theorem iX8_heaviestIn_X8 : ∀ w ∈ u_ws RX8 TX8 22, w ∈ wsX8_heaviestIn := fun w h => List.mem_cons_of_mem _ (List.mem_append_left _ (List.mem_append_right _ h))
set_option maxHeartbeats 4000000 in
set_option maxRecDepth 100000 in
theorem c_X8_heaviestIn (l : Launch) (D : va_G) (y : Nat → ClassId) (fl : Nat) (sz : Nat) (a_t : Nat) (a_t_now : Nat) (a_t_tried : Nat) (a_t_kept : Nat) (a_t_saved : Nat) (a_t_line : Nat) (a_t_text : Nat) (a_t_told : Nat) (a_t_way : Nat) (t_undos : Int32) (t_isSaved : Int32) (t_lined : Int32) (t_length : Int32) (t_at : Int32) (t_order : Int32) (t_fault : Int32) (t_reason : Int32) (t_detail : Int32) (t_index : Int32) (t_answer : Int32) (t_thrown : Int32) (t_went : Int32) (t_fell : Int32) (t_now : Nat → Int32) (p1 : Int32) (p2 : Int32) (r : Int32) (t_thrown' : Int32) (hF : F_X8_heaviestIn fl t_thrown t_now p1 p2 = some (r, t_thrown')) : Met l yX8_heaviestIn wsX8_heaviestIn (rmq 3 63) (wrP D y [(a_t, .inr (12, [.ref a_t_now, .ref a_t_tried, .ref a_t_kept, .int t_undos, .ref a_t_saved, .int t_isSaved, .ref a_t_line, .int t_lined, .ref a_t_text, .int t_length, .int t_at, .int t_order, .ref a_t_told, .int t_fault, .int t_reason, .int t_detail, .int t_index, .int t_answer, .int t_thrown, .ref a_t_way, .int t_went, .int t_fell])), (a_t_now, .inl (y 0, 77, .inl t_now))] sz [.ref a_t, .int p1, .int p2]) (wQi D y r [(a_t, .inr (12, [.ref a_t_now, .ref a_t_tried, .ref a_t_kept, .int t_undos, .ref a_t_saved, .int t_isSaved, .ref a_t_line, .int t_lined, .ref a_t_text, .int t_length, .int t_at, .int t_order, .ref a_t_told, .int t_fault, .int t_reason, .int t_detail, .int t_index, .int t_answer, .int t_thrown', .ref a_t_way, .int t_went, .int t_fell])), (a_t_now, .inl (y 0, 77, .inl t_now))] [(a_t, .inr (12, [.ref a_t_now, .ref a_t_tried, .ref a_t_kept, .int t_undos, .ref a_t_saved, .int t_isSaved, .ref a_t_line, .int t_lined, .ref a_t_text, .int t_length, .int t_at, .int t_order, .ref a_t_told, .int t_fault, .int t_reason, .int t_detail, .int t_index, .int t_answer, .int t_thrown, .ref a_t_way, .int t_went, .int t_fell])), (a_t_now, .inl (y 0, 77, .inl t_now))] sz) 0 0 (va_A [(a_t, .inr (12, [.ref a_t_now, .ref a_t_tried, .ref a_t_kept, .int t_undos, .ref a_t_saved, .int t_isSaved, .ref a_t_line, .int t_lined, .ref a_t_text, .int t_length, .int t_at, .int t_order, .ref a_t_told, .int t_fault, .int t_reason, .int t_detail, .int t_index, .int t_answer, .int t_thrown, .ref a_t_way, .int t_went, .int t_fell])), (a_t_now, .inl (y 0, 77, .inl t_now))] sz) := by
  refine Met.ofW (cc := cX8_heaviestIn) (maxL := 5) (ret := (some .int)) (by decide) rfl ?_
  intro p e s m args below meth c s₁ B hml hv
  obtain ⟨hav, hsz, hP, hK, hD0⟩ := hv
  have hx := B.exec
  have hb := B.bytes
  have hr := B.returns
  have hts := atoms_spec (ws := wsX8_heaviestIn) B.pre
  have hown : s.vm.findClass RX8 = some m.cls := findClass_of_methodNamed B.named
  have hlocks := B.notSynchronized
  subst hsz
  have hD := hD0.self (sz := s.heap.size)
  obtain ⟨A, hAe⟩ : ∃ A : Nat → Prop, va_A [(a_t, .inr (12, [.ref a_t_now, .ref a_t_tried, .ref a_t_kept, .int t_undos, .ref a_t_saved, .int t_isSaved, .ref a_t_line, .int t_lined, .ref a_t_text, .int t_length, .int t_at, .int t_order, .ref a_t_told, .int t_fault, .int t_reason, .int t_detail, .int t_index, .int t_answer, .int t_thrown, .ref a_t_way, .int t_went, .int t_fell])), (a_t_now, .inl (y 0, 77, .inl t_now))] s.heap.size = A := ⟨_, rfl⟩
  rw [hAe] at hD
  have hA : ∀ q, s.heap.size ≤ q → A q := fun q h => by rw [← hAe]; exact Or.inr h
  have hS : va_S A s.heap s.heap [] := va_S.rf
  refine W_q (R1 := (rmq 3 63)) rfl (fun Q0 hQ0 => ?_)
  unfold F_X8_heaviestIn at hF
  have k_29 : ∀ (n : Nat) (t_thrown_w : Int32) (x1 : Int32) (x2 : Int32) (x3 : Int32) (x4 : Int32), F_X8_heaviestIn_29 fl t_now n t_thrown_w x1 x2 x3 x4 = some (r, t_thrown') → ∀ (H : Heap) (locs : List Loc), va_P D vwCl [(a_t, .inr (12, [.ref a_t_now, .ref a_t_tried, .ref a_t_kept, .int t_undos, .ref a_t_saved, .int t_isSaved, .ref a_t_line, .int t_lined, .ref a_t_text, .int t_length, .int t_at, .int t_order, .ref a_t_told, .int t_fault, .int t_reason, .int t_detail, .int t_index, .int t_answer, .int t_thrown_w, .ref a_t_way, .int t_went, .int t_fell])), (a_t_now, .inl (y 0, 77, .inl t_now))] H → va_D A [(a_t, .inr (12, [.ref a_t_now, .ref a_t_tried, .ref a_t_kept, .int t_undos, .ref a_t_saved, .int t_isSaved, .ref a_t_line, .int t_lined, .ref a_t_text, .int t_length, .int t_at, .int t_order, .ref a_t_told, .int t_fault, .int t_reason, .int t_detail, .int t_index, .int t_answer, .int t_thrown_w, .ref a_t_way, .int t_went, .int t_fell])), (a_t_now, .inl (y 0, 77, .inl t_now))] → va_S A s.heap H locs → ∀ (ls : Array Slot), lv_has ls 5 [(0, .ref a_t), (1, .int x1), (2, .int x2), (3, .int x3), (4, .int x4)] → W p l e (rmq 3 63) s m args below meth c H locs 0 0 Q0 (F0 m 29 ls []) := by
    intro n
    induction n with
    | zero => intro t_thrown_w x1 x2 x3 x4 hF; rw [F_X8_heaviestIn_29] at hF; cases hF
    | succ n ih =>
      intro t_thrown_w x1 x2 x3 x4 hF H locs hP hD hS ls hl
      rw [F_X8_heaviestIn_29] at hF
      refine lv_iload hx hb dX8_heaviestIn_29 (lv_at hl 4 rfl) ?_
      refine lv_aload_n hx hb dX8_heaviestIn_31 rfl (lv_at hl 0 rfl) ?_
      refine lv_iload_n hx hb dX8_heaviestIn_32 rfl (lv_at hl 2 rfl) ?_
      refine lv_iconst (v := 1) hx hb dX8_heaviestIn_33 (by decide) ?_
      obtain ⟨r_34, hq_34, hF⟩ := bn_i hF
      refine cr_V (As := [.int x2, .int (1 : Int32)]) (rest := [.int x4]) ⟨hx, hb, hml, hown, hts⟩ (c_X8_lower l D y fl a_t a_t_now a_t_tried a_t_kept a_t_saved a_t_line a_t_text a_t_told a_t_way t_undos t_isSaved t_lined t_length t_at t_order t_fault t_reason t_detail t_index t_answer t_thrown_w t_went t_fell t_now x2 (1 : Int32) r_34 hq_34) (cwV 2 hts gX8_heaviestIn_X8_lower rfl rfl rfl (by decide +kernel) ⟨Nat.le_of_ble_eq_true rfl, Nat.le_of_ble_eq_true rfl⟩) hK hP [0, 1] rfl rfl rfl rfl hl.1 rfl (Nat.le_of_ble_eq_true rfl) dX8_heaviestIn_34 ⟨Nat.le_of_ble_eq_true rfl, Nat.le_of_ble_eq_true rfl⟩ ?_
      refine lv_icmp_ge (tgt := 67) hx hb dX8_heaviestIn_37 (by decide) (fun c_37 => ?_) (fun c_37 => ?_)
      · have hF := ift hF c_37
        refine lv_iload_n hx hb dX8_heaviestIn_67 rfl (lv_at hl 3 rfl) ?_
        refine lv_if_ge (tgt := 79) hx hb dX8_heaviestIn_68 (by decide) (fun c_68 => ?_) (fun c_68 => ?_)
        · have hF := ift hF c_68
          refine lv_aload_n hx hb dX8_heaviestIn_79 rfl (lv_at hl 0 rfl) ?_
          refine lv_iload_n hx hb dX8_heaviestIn_80 rfl (lv_at hl 3 rfl) ?_
          obtain ⟨r_81, hq_81, hF⟩ := bn_i hF
          refine cr_V (As := [.int x3]) (rest := []) ⟨hx, hb, hml, hown, hts⟩ (c_X8_key l D y fl a_t a_t_now a_t_tried a_t_kept a_t_saved a_t_line a_t_text a_t_told a_t_way t_undos t_isSaved t_lined t_length t_at t_order t_fault t_reason t_detail t_index t_answer t_thrown_w t_went t_fell t_now x3 r_81 hq_81) (cwV 1 hts gX8_heaviestIn_X8_key rfl rfl rfl (by decide +kernel) ⟨Nat.le_of_ble_eq_true rfl, Nat.le_of_ble_eq_true rfl⟩) hK hP [0, 1] rfl rfl rfl rfl hl.1 rfl (Nat.le_of_ble_eq_true rfl) dX8_heaviestIn_81 ⟨Nat.le_of_ble_eq_true rfl, Nat.le_of_ble_eq_true rfl⟩ ?_
          obtain ⟨e0_84, e1_84⟩ := inj2 hF
          rw [← e0_84, ← e1_84] at hQ0
          rw [hQ0]
          exact ret_i hx hb hr hlocks hAe hK hP hD hS [0, 1] rfl rfl dX8_heaviestIn_84
        · have hF := iff_ hF c_68
          refine lv_aload_n hx hb dX8_heaviestIn_71 rfl (lv_at hl 0 rfl) ?_
          refine lv_iconst (v := 2) hx hb dX8_heaviestIn_72 (by decide) ?_
          obtain ⟨r_73, t_thrown_73, hq_73, hF⟩ := bn2_i hF
          refine cm_Vi (As := [.int (2 : Int32)]) (rest := []) (wr := [(a_t_now, .inl (y 0, 77, .inl t_now))]) ⟨hx, hb, hml, hown, hts⟩ (c_X8_raises l D y fl H.size a_t a_t_now a_t_tried a_t_kept a_t_saved a_t_line a_t_text a_t_told a_t_way t_undos t_isSaved t_lined t_length t_at t_order t_fault t_reason t_detail t_index t_answer t_thrown_w t_went t_fell (2 : Int32) r_73 t_thrown_73 hq_73) (cwV 1 hts gX8_heaviestIn_X8_raises rfl rfl rfl (by decide +kernel) ⟨Nat.le_of_ble_eq_true rfl, Nat.le_of_ble_eq_true rfl⟩) hK hP hD hS hA [0] [1] rfl rfl rfl rfl (by decide) rfl rfl rfl hl.1 rfl (Nat.le_of_ble_eq_true rfl) dX8_heaviestIn_73 ⟨Nat.le_of_ble_eq_true rfl, Nat.le_of_ble_eq_true rfl⟩ (fun H locs hP hD hS => ?_)
          have hP : va_P D vwCl [(a_t_now, .inl (y 0, 77, .inl t_now)), (a_t, .inr (12, [.ref a_t_now, .ref a_t_tried, .ref a_t_kept, .int t_undos, .ref a_t_saved, .int t_isSaved, .ref a_t_line, .int t_lined, .ref a_t_text, .int t_length, .int t_at, .int t_order, .ref a_t_told, .int t_fault, .int t_reason, .int t_detail, .int t_index, .int t_answer, .int t_thrown_73, .ref a_t_way, .int t_went, .int t_fell]))] H := hP
          have hD : va_D A [(a_t_now, .inl (y 0, 77, .inl t_now)), (a_t, .inr (12, [.ref a_t_now, .ref a_t_tried, .ref a_t_kept, .int t_undos, .ref a_t_saved, .int t_isSaved, .ref a_t_line, .int t_lined, .ref a_t_text, .int t_length, .int t_at, .int t_order, .ref a_t_told, .int t_fault, .int t_reason, .int t_detail, .int t_index, .int t_answer, .int t_thrown_73, .ref a_t_way, .int t_went, .int t_fell]))] := hD
          refine lv_goto (tgt := 84) hx hb dX8_heaviestIn_76 (by decide) ?_
          obtain ⟨e0_84, e1_84⟩ := inj2 hF
          rw [← e0_84, ← e1_84] at hQ0
          rw [hQ0]
          exact ret_i hx hb hr hlocks hAe hK hP hD hS [1, 0] rfl rfl dX8_heaviestIn_84
      · have hF := iff_ hF c_37
        refine lv_iload_n hx hb dX8_heaviestIn_40 rfl (lv_at hl 3 rfl) ?_
        refine lv_if_lt (tgt := 58) hx hb dX8_heaviestIn_41 (by decide) (fun c_41 => ?_) (fun c_41 => ?_)
        · have hF := ift hF c_41
          refine lv_iload hx hb dX8_heaviestIn_58 (lv_at hl 4 rfl) ?_
          refine lv_istore_n (lv' := [(3, .int x4), (0, .ref a_t), (1, .int x1), (2, .int x2), (4, .int x4)]) hx hb dX8_heaviestIn_60 rfl hl (by decide) rfl (fun ls hl => ?_)
          refine lv_iinc (v := x4 + (1 : Int32)) (lv' := [(4, .int (x4 + (1 : Int32))), (3, .int x4), (0, .ref a_t), (1, .int x1), (2, .int x2)]) hx hb dX8_heaviestIn_61 hl (k := 4) rfl rfl (by decide) rfl (fun ls hl => ?_)
          refine lv_goto (tgt := 29) hx hb dX8_heaviestIn_64 (by decide) ?_
          exact ih t_thrown_w x1 x2 x4 (x4 + (1 : Int32)) hF _ _ hP hD hS ls (lv_sub hl [2, 3, 4, 1, 0] rfl)
        · have hF := iff_ hF c_41
          refine lv_aload_n hx hb dX8_heaviestIn_44 rfl (lv_at hl 0 rfl) ?_
          refine lv_iload hx hb dX8_heaviestIn_45 (lv_at hl 4 rfl) ?_
          obtain ⟨r_47, hq_47, hF⟩ := bn_i hF
          refine cr_V (As := [.int x4]) (rest := []) ⟨hx, hb, hml, hown, hts⟩ (c_X8_weight l D y fl a_t a_t_now a_t_tried a_t_kept a_t_saved a_t_line a_t_text a_t_told a_t_way t_undos t_isSaved t_lined t_length t_at t_order t_fault t_reason t_detail t_index t_answer t_thrown_w t_went t_fell t_now x4 r_47 hq_47) (cwV 1 hts gX8_heaviestIn_X8_weight rfl rfl rfl (by decide +kernel) ⟨Nat.le_of_ble_eq_true rfl, Nat.le_of_ble_eq_true rfl⟩) hK hP [0, 1] rfl rfl rfl rfl hl.1 rfl (Nat.le_of_ble_eq_true rfl) dX8_heaviestIn_47 ⟨Nat.le_of_ble_eq_true rfl, Nat.le_of_ble_eq_true rfl⟩ ?_
          refine lv_aload_n hx hb dX8_heaviestIn_50 rfl (lv_at hl 0 rfl) ?_
          refine lv_iload_n hx hb dX8_heaviestIn_51 rfl (lv_at hl 3 rfl) ?_
          obtain ⟨r_52, hq_52, hF⟩ := bn_i hF
          refine cr_V (As := [.int x3]) (rest := [.int r_47]) ⟨hx, hb, hml, hown, hts⟩ (c_X8_weight l D y fl a_t a_t_now a_t_tried a_t_kept a_t_saved a_t_line a_t_text a_t_told a_t_way t_undos t_isSaved t_lined t_length t_at t_order t_fault t_reason t_detail t_index t_answer t_thrown_w t_went t_fell t_now x3 r_52 hq_52) (cwV 1 hts gX8_heaviestIn_X8_weight rfl rfl rfl (by decide +kernel) ⟨Nat.le_of_ble_eq_true rfl, Nat.le_of_ble_eq_true rfl⟩) hK hP [0, 1] rfl rfl rfl rfl hl.1 rfl (Nat.le_of_ble_eq_true rfl) dX8_heaviestIn_52 ⟨Nat.le_of_ble_eq_true rfl, Nat.le_of_ble_eq_true rfl⟩ ?_
          refine lv_icmp_le (tgt := 61) hx hb dX8_heaviestIn_55 (by decide) (fun c_55 => ?_) (fun c_55 => ?_)
          · have hF := ift hF c_55
            refine lv_iinc (v := x4 + (1 : Int32)) (lv' := [(4, .int (x4 + (1 : Int32))), (0, .ref a_t), (1, .int x1), (2, .int x2), (3, .int x3)]) hx hb dX8_heaviestIn_61 hl (k := 4) rfl rfl (by decide) rfl (fun ls hl => ?_)
            refine lv_goto (tgt := 29) hx hb dX8_heaviestIn_64 (by decide) ?_
            exact ih t_thrown_w x1 x2 x3 (x4 + (1 : Int32)) hF _ _ hP hD hS ls (lv_sub hl [1, 2, 3, 4, 0] rfl)
          · have hF := iff_ hF c_55
            refine lv_iload hx hb dX8_heaviestIn_58 (lv_at hl 4 rfl) ?_
            refine lv_istore_n (lv' := [(3, .int x4), (0, .ref a_t), (1, .int x1), (2, .int x2), (4, .int x4)]) hx hb dX8_heaviestIn_60 rfl hl (by decide) rfl (fun ls hl => ?_)
            refine lv_iinc (v := x4 + (1 : Int32)) (lv' := [(4, .int (x4 + (1 : Int32))), (3, .int x4), (0, .ref a_t), (1, .int x1), (2, .int x2)]) hx hb dX8_heaviestIn_61 hl (k := 4) rfl rfl (by decide) rfl (fun ls hl => ?_)
            refine lv_goto (tgt := 29) hx hb dX8_heaviestIn_64 (by decide) ?_
            exact ih t_thrown_w x1 x2 x4 (x4 + (1 : Int32)) hF _ _ hP hD hS ls (lv_sub hl [2, 3, 4, 1, 0] rfl)
  refine W_entry hav (Nat.le_of_ble_eq_true rfl) (fun ls hl => ?_)
  have hl : lv_has ls 5 [(0, .ref a_t), (1, .int p1), (2, .int p2)] := hl
  refine lv_aload_n hx hb dX8_heaviestIn_0 rfl (lv_at hl 0 rfl) ?_
  refine lv_iconst (v := 0) hx hb dX8_heaviestIn_1 (by decide) ?_
  refine va_put (D := D) (ci := 12) (v := .int (0 : Int32)) (ty := .int) (C := RX8) (T := TX8) (N := 22) hx hb hts iX8_heaviestIn_X8 tyX8 tyX8_ok nmX8 hown hK hP hD hS 0 rfl rfl 18 (by decide) (hts (.fieldLink RX8 39 "SkipArchiveModel" "thrown" "I") (List.mem_of_getElem? (i := 1) rfl)) (fun _ h9 => h9) rfl (by decide +kernel) rfl rfl (Nat.le_of_ble_eq_true rfl) dX8_heaviestIn_2 (fun H locs hP hD hS => ?_)
  have hP : va_P D vwCl [(a_t, .inr (12, [.ref a_t_now, .ref a_t_tried, .ref a_t_kept, .int t_undos, .ref a_t_saved, .int t_isSaved, .ref a_t_line, .int t_lined, .ref a_t_text, .int t_length, .int t_at, .int t_order, .ref a_t_told, .int t_fault, .int t_reason, .int t_detail, .int t_index, .int t_answer, .int (0 : Int32), .ref a_t_way, .int t_went, .int t_fell])), (a_t_now, .inl (y 0, 77, .inl t_now))] H := hP
  have hD : va_D A [(a_t, .inr (12, [.ref a_t_now, .ref a_t_tried, .ref a_t_kept, .int t_undos, .ref a_t_saved, .int t_isSaved, .ref a_t_line, .int t_lined, .ref a_t_text, .int t_length, .int t_at, .int t_order, .ref a_t_told, .int t_fault, .int t_reason, .int t_detail, .int t_index, .int t_answer, .int (0 : Int32), .ref a_t_way, .int t_went, .int t_fell])), (a_t_now, .inl (y 0, 77, .inl t_now))] := hD
  refine lv_iload_n hx hb dX8_heaviestIn_5 rfl (lv_at hl 1 rfl) ?_
  refine lv_iload_n hx hb dX8_heaviestIn_6 rfl (lv_at hl 2 rfl) ?_
  obtain ⟨r_7, hq_7, hF⟩ := bn_i hF
  refine cr_S (As := [.int p1, .int p2]) (rest := []) ⟨hx, hb, hml, hown, hts⟩ (c_X8_isRange l D y fl p1 p2 r_7 hq_7) (va_cwS 2 hts gX8_heaviestIn_X8_isRange rfl rfl rfl (by decide +kernel) ⟨Nat.le_of_ble_eq_true rfl, Nat.le_of_ble_eq_true rfl⟩) hK hP [] rfl rfl hl.1 rfl (Nat.le_of_ble_eq_true rfl) dX8_heaviestIn_7 ⟨Nat.le_of_ble_eq_true rfl, Nat.le_of_ble_eq_true rfl⟩ ?_
  refine lv_if_ne (tgt := 19) hx hb dX8_heaviestIn_10 (by decide) (fun c_10 => ?_) (fun c_10 => ?_)
  · have hF := iff_ hF c_10
    refine lv_iconst (v := -1) hx hb dX8_heaviestIn_19 (by decide) ?_
    refine lv_istore_n (lv' := [(3, .int (-1 : Int32)), (0, .ref a_t), (1, .int p1), (2, .int p2)]) hx hb dX8_heaviestIn_20 rfl hl (by decide) rfl (fun ls hl => ?_)
    refine lv_aload_n hx hb dX8_heaviestIn_21 rfl (lv_at hl 1 rfl) ?_
    refine lv_iload_n hx hb dX8_heaviestIn_22 rfl (lv_at hl 2 rfl) ?_
    refine lv_iconst (v := 0) hx hb dX8_heaviestIn_23 (by decide) ?_
    obtain ⟨r_24, hq_24, hF⟩ := bn_i hF
    refine cr_V (As := [.int p1, .int (0 : Int32)]) (rest := []) ⟨hx, hb, hml, hown, hts⟩ (c_X8_lower l D y fl a_t a_t_now a_t_tried a_t_kept a_t_saved a_t_line a_t_text a_t_told a_t_way t_undos t_isSaved t_lined t_length t_at t_order t_fault t_reason t_detail t_index t_answer (0 : Int32) t_went t_fell t_now p1 (0 : Int32) r_24 hq_24) (cwV 2 hts gX8_heaviestIn_X8_lower rfl rfl rfl (by decide +kernel) ⟨Nat.le_of_ble_eq_true rfl, Nat.le_of_ble_eq_true rfl⟩) hK hP [0, 1] rfl rfl rfl rfl hl.1 rfl (Nat.le_of_ble_eq_true rfl) dX8_heaviestIn_24 ⟨Nat.le_of_ble_eq_true rfl, Nat.le_of_ble_eq_true rfl⟩ ?_
    refine lv_istore (lv' := [(4, .int r_24), (3, .int (-1 : Int32)), (0, .ref a_t), (1, .int p1), (2, .int p2)]) hx hb dX8_heaviestIn_27 hl (by decide) rfl (fun ls hl => ?_)
    exact k_29 fl (0 : Int32) p1 p2 (-1 : Int32) r_24 hF _ _ hP hD hS ls (lv_sub hl [2, 3, 4, 1, 0] rfl)
  · have hF := ift hF c_10
    refine lv_aload_n hx hb dX8_heaviestIn_13 rfl (lv_at hl 0 rfl) ?_
    refine lv_iconst (v := 1) hx hb dX8_heaviestIn_14 (by decide) ?_
    obtain ⟨r_15, t_thrown_15, hq_15, hF⟩ := bn2_i hF
    refine cm_Vi (As := [.int (1 : Int32)]) (rest := []) (wr := [(a_t_now, .inl (y 0, 77, .inl t_now))]) ⟨hx, hb, hml, hown, hts⟩ (c_X8_raises l D y fl H.size a_t a_t_now a_t_tried a_t_kept a_t_saved a_t_line a_t_text a_t_told a_t_way t_undos t_isSaved t_lined t_length t_at t_order t_fault t_reason t_detail t_index t_answer (0 : Int32) t_went t_fell (1 : Int32) r_15 t_thrown_15 hq_15) (cwV 1 hts gX8_heaviestIn_X8_raises rfl rfl rfl (by decide +kernel) ⟨Nat.le_of_ble_eq_true rfl, Nat.le_of_ble_eq_true rfl⟩) hK hP hD hS hA [0] [1] rfl rfl rfl rfl (by decide) rfl rfl rfl hl.1 rfl (Nat.le_of_ble_eq_true rfl) dX8_heaviestIn_15 ⟨Nat.le_of_ble_eq_true rfl, Nat.le_of_ble_eq_true rfl⟩ (fun H locs hP hD hS => ?_)
    have hP : va_P D vwCl [(a_t_now, .inl (y 0, 77, .inl t_now)), (a_t, .inr (12, [.ref a_t_now, .ref a_t_tried, .ref a_t_kept, .int t_undos, .ref a_t_saved, .int t_isSaved, .ref a_t_line, .int t_lined, .ref a_t_text, .int t_length, .int t_at, .int t_order, .ref a_t_told, .int t_fault, .int t_reason, .int t_detail, .int t_index, .int t_answer, .int t_thrown_15, .ref a_t_way, .int t_went, .int t_fell]))] H := hP
    have hD : va_D A [(a_t_now, .inl (y 0, 77, .inl t_now)), (a_t, .inr (12, [.ref a_t_now, .ref a_t_tried, .ref a_t_kept, .int t_undos, .ref a_t_saved, .int t_isSaved, .ref a_t_line, .int t_lined, .ref a_t_text, .int t_length, .int t_at, .int t_order, .ref a_t_told, .int t_fault, .int t_reason, .int t_detail, .int t_index, .int t_answer, .int t_thrown_15, .ref a_t_way, .int t_went, .int t_fell]))] := hD
    obtain ⟨e0_18, e1_18⟩ := inj2 hF
    rw [← e0_18, ← e1_18] at hQ0
    rw [hQ0]
    exact ret_i hx hb hr hlocks hAe hK hP hD hS [1, 0] rfl rfl dX8_heaviestIn_18
def F_X8_levelSize (fl : Nat) (t_thrown : Int32) (t_now : Nat → Int32) (p1 : Int32) : Option (Int32 × Int32) := bn (F_X8_isLevel fl p1) fun r_6 => if r_6 = 0 then (bn2 (F_X8_raises fl (0 : Int32) (1 : Int32)) fun r_22 t_thrown_22 => some (r_22, t_thrown_22)) else (bn (F_X8_sizeOf fl t_now p1) fun r_14 => some (r_14, (0 : Int32)))
theorem iX8_levelSize_X8 : ∀ w ∈ u_ws RX8 TX8 22, w ∈ wsX8_levelSize := fun w h => List.mem_cons_of_mem _ (List.mem_append_left _ (List.mem_append_right _ h))
set_option maxHeartbeats 4000000 in
set_option maxRecDepth 100000 in
theorem c_X8_levelSize (l : Launch) (D : va_G) (y : Nat → ClassId) (fl : Nat) (sz : Nat) (a_t : Nat) (a_t_now : Nat) (a_t_tried : Nat) (a_t_kept : Nat) (a_t_saved : Nat) (a_t_line : Nat) (a_t_text : Nat) (a_t_told : Nat) (a_t_way : Nat) (t_undos : Int32) (t_isSaved : Int32) (t_lined : Int32) (t_length : Int32) (t_at : Int32) (t_order : Int32) (t_fault : Int32) (t_reason : Int32) (t_detail : Int32) (t_index : Int32) (t_answer : Int32) (t_thrown : Int32) (t_went : Int32) (t_fell : Int32) (t_now : Nat → Int32) (p1 : Int32) (r : Int32) (t_thrown' : Int32) (hF : F_X8_levelSize fl t_thrown t_now p1 = some (r, t_thrown')) : Met l yX8_levelSize wsX8_levelSize (rmq 2 44) (wrP D y [(a_t, .inr (12, [.ref a_t_now, .ref a_t_tried, .ref a_t_kept, .int t_undos, .ref a_t_saved, .int t_isSaved, .ref a_t_line, .int t_lined, .ref a_t_text, .int t_length, .int t_at, .int t_order, .ref a_t_told, .int t_fault, .int t_reason, .int t_detail, .int t_index, .int t_answer, .int t_thrown, .ref a_t_way, .int t_went, .int t_fell])), (a_t_now, .inl (y 0, 77, .inl t_now))] sz [.ref a_t, .int p1]) (wQi D y r [(a_t, .inr (12, [.ref a_t_now, .ref a_t_tried, .ref a_t_kept, .int t_undos, .ref a_t_saved, .int t_isSaved, .ref a_t_line, .int t_lined, .ref a_t_text, .int t_length, .int t_at, .int t_order, .ref a_t_told, .int t_fault, .int t_reason, .int t_detail, .int t_index, .int t_answer, .int t_thrown', .ref a_t_way, .int t_went, .int t_fell])), (a_t_now, .inl (y 0, 77, .inl t_now))] [(a_t, .inr (12, [.ref a_t_now, .ref a_t_tried, .ref a_t_kept, .int t_undos, .ref a_t_saved, .int t_isSaved, .ref a_t_line, .int t_lined, .ref a_t_text, .int t_length, .int t_at, .int t_order, .ref a_t_told, .int t_fault, .int t_reason, .int t_detail, .int t_index, .int t_answer, .int t_thrown, .ref a_t_way, .int t_went, .int t_fell])), (a_t_now, .inl (y 0, 77, .inl t_now))] sz) 0 0 (va_A [(a_t, .inr (12, [.ref a_t_now, .ref a_t_tried, .ref a_t_kept, .int t_undos, .ref a_t_saved, .int t_isSaved, .ref a_t_line, .int t_lined, .ref a_t_text, .int t_length, .int t_at, .int t_order, .ref a_t_told, .int t_fault, .int t_reason, .int t_detail, .int t_index, .int t_answer, .int t_thrown, .ref a_t_way, .int t_went, .int t_fell])), (a_t_now, .inl (y 0, 77, .inl t_now))] sz) := by
  refine Met.ofW (cc := cX8_levelSize) (maxL := 2) (ret := (some .int)) (by decide) rfl ?_
  intro p e s m args below meth c s₁ B hml hv
  obtain ⟨hav, hsz, hP, hK, hD0⟩ := hv
  have hx := B.exec
  have hb := B.bytes
  have hr := B.returns
  have hts := atoms_spec (ws := wsX8_levelSize) B.pre
  have hown : s.vm.findClass RX8 = some m.cls := findClass_of_methodNamed B.named
  have hlocks := B.notSynchronized
  subst hsz
  have hD := hD0.self (sz := s.heap.size)
  obtain ⟨A, hAe⟩ : ∃ A : Nat → Prop, va_A [(a_t, .inr (12, [.ref a_t_now, .ref a_t_tried, .ref a_t_kept, .int t_undos, .ref a_t_saved, .int t_isSaved, .ref a_t_line, .int t_lined, .ref a_t_text, .int t_length, .int t_at, .int t_order, .ref a_t_told, .int t_fault, .int t_reason, .int t_detail, .int t_index, .int t_answer, .int t_thrown, .ref a_t_way, .int t_went, .int t_fell])), (a_t_now, .inl (y 0, 77, .inl t_now))] s.heap.size = A := ⟨_, rfl⟩
  rw [hAe] at hD
  have hA : ∀ q, s.heap.size ≤ q → A q := fun q h => by rw [← hAe]; exact Or.inr h
  have hS : va_S A s.heap s.heap [] := va_S.rf
  refine W_q (R1 := (rmq 2 44)) rfl (fun Q0 hQ0 => ?_)
  unfold F_X8_levelSize at hF
  refine W_entry hav (Nat.le_of_ble_eq_true rfl) (fun ls hl => ?_)
  have hl : lv_has ls 2 [(0, .ref a_t), (1, .int p1)] := hl
  refine lv_aload_n hx hb dX8_levelSize_0 rfl (lv_at hl 0 rfl) ?_
  refine lv_iconst (v := 0) hx hb dX8_levelSize_1 (by decide) ?_
  refine va_put (D := D) (ci := 12) (v := .int (0 : Int32)) (ty := .int) (C := RX8) (T := TX8) (N := 22) hx hb hts iX8_levelSize_X8 tyX8 tyX8_ok nmX8 hown hK hP hD hS 0 rfl rfl 18 (by decide) (hts (.fieldLink RX8 39 "SkipArchiveModel" "thrown" "I") (List.mem_of_getElem? (i := 1) rfl)) (fun _ h9 => h9) rfl (by decide +kernel) rfl rfl (Nat.le_of_ble_eq_true rfl) dX8_levelSize_2 (fun H locs hP hD hS => ?_)
  have hP : va_P D vwCl [(a_t, .inr (12, [.ref a_t_now, .ref a_t_tried, .ref a_t_kept, .int t_undos, .ref a_t_saved, .int t_isSaved, .ref a_t_line, .int t_lined, .ref a_t_text, .int t_length, .int t_at, .int t_order, .ref a_t_told, .int t_fault, .int t_reason, .int t_detail, .int t_index, .int t_answer, .int (0 : Int32), .ref a_t_way, .int t_went, .int t_fell])), (a_t_now, .inl (y 0, 77, .inl t_now))] H := hP
  have hD : va_D A [(a_t, .inr (12, [.ref a_t_now, .ref a_t_tried, .ref a_t_kept, .int t_undos, .ref a_t_saved, .int t_isSaved, .ref a_t_line, .int t_lined, .ref a_t_text, .int t_length, .int t_at, .int t_order, .ref a_t_told, .int t_fault, .int t_reason, .int t_detail, .int t_index, .int t_answer, .int (0 : Int32), .ref a_t_way, .int t_went, .int t_fell])), (a_t_now, .inl (y 0, 77, .inl t_now))] := hD
  refine lv_iload_n hx hb dX8_levelSize_5 rfl (lv_at hl 1 rfl) ?_
  obtain ⟨r_6, hq_6, hF⟩ := bn_i hF
  refine cr_S (As := [.int p1]) (rest := []) ⟨hx, hb, hml, hown, hts⟩ (c_X8_isLevel l D y fl p1 r_6 hq_6) (va_cwS 1 hts gX8_levelSize_X8_isLevel rfl rfl rfl (by decide +kernel) ⟨Nat.le_of_ble_eq_true rfl, Nat.le_of_ble_eq_true rfl⟩) hK hP [] rfl rfl hl.1 rfl (Nat.le_of_ble_eq_true rfl) dX8_levelSize_6 ⟨Nat.le_of_ble_eq_true rfl, Nat.le_of_ble_eq_true rfl⟩ ?_
  refine lv_if_eq (tgt := 20) hx hb dX8_levelSize_9 (by decide) (fun c_9 => ?_) (fun c_9 => ?_)
  · have hF := ift hF c_9
    refine lv_aload_n hx hb dX8_levelSize_20 rfl (lv_at hl 0 rfl) ?_
    refine lv_iconst (v := 1) hx hb dX8_levelSize_21 (by decide) ?_
    obtain ⟨r_22, t_thrown_22, hq_22, hF⟩ := bn2_i hF
    refine cm_Vi (As := [.int (1 : Int32)]) (rest := []) (wr := [(a_t_now, .inl (y 0, 77, .inl t_now))]) ⟨hx, hb, hml, hown, hts⟩ (c_X8_raises l D y fl H.size a_t a_t_now a_t_tried a_t_kept a_t_saved a_t_line a_t_text a_t_told a_t_way t_undos t_isSaved t_lined t_length t_at t_order t_fault t_reason t_detail t_index t_answer (0 : Int32) t_went t_fell (1 : Int32) r_22 t_thrown_22 hq_22) (cwV 1 hts gX8_levelSize_X8_raises rfl rfl rfl (by decide +kernel) ⟨Nat.le_of_ble_eq_true rfl, Nat.le_of_ble_eq_true rfl⟩) hK hP hD hS hA [0] [1] rfl rfl rfl rfl (by decide) rfl rfl rfl hl.1 rfl (Nat.le_of_ble_eq_true rfl) dX8_levelSize_22 ⟨Nat.le_of_ble_eq_true rfl, Nat.le_of_ble_eq_true rfl⟩ (fun H locs hP hD hS => ?_)
    have hP : va_P D vwCl [(a_t_now, .inl (y 0, 77, .inl t_now)), (a_t, .inr (12, [.ref a_t_now, .ref a_t_tried, .ref a_t_kept, .int t_undos, .ref a_t_saved, .int t_isSaved, .ref a_t_line, .int t_lined, .ref a_t_text, .int t_length, .int t_at, .int t_order, .ref a_t_told, .int t_fault, .int t_reason, .int t_detail, .int t_index, .int t_answer, .int t_thrown_22, .ref a_t_way, .int t_went, .int t_fell]))] H := hP
    have hD : va_D A [(a_t_now, .inl (y 0, 77, .inl t_now)), (a_t, .inr (12, [.ref a_t_now, .ref a_t_tried, .ref a_t_kept, .int t_undos, .ref a_t_saved, .int t_isSaved, .ref a_t_line, .int t_lined, .ref a_t_text, .int t_length, .int t_at, .int t_order, .ref a_t_told, .int t_fault, .int t_reason, .int t_detail, .int t_index, .int t_answer, .int t_thrown_22, .ref a_t_way, .int t_went, .int t_fell]))] := hD
    obtain ⟨e0_25, e1_25⟩ := inj2 hF
    rw [← e0_25, ← e1_25] at hQ0
    rw [hQ0]
    exact ret_i hx hb hr hlocks hAe hK hP hD hS [1, 0] rfl rfl dX8_levelSize_25
  · have hF := iff_ hF c_9
    refine lv_aload_n hx hb dX8_levelSize_12 rfl (lv_at hl 0 rfl) ?_
    refine lv_iload_n hx hb dX8_levelSize_13 rfl (lv_at hl 1 rfl) ?_
    obtain ⟨r_14, hq_14, hF⟩ := bn_i hF
    refine cr_V (As := [.int p1]) (rest := []) ⟨hx, hb, hml, hown, hts⟩ (c_X8_sizeOf l D y fl a_t a_t_now a_t_tried a_t_kept a_t_saved a_t_line a_t_text a_t_told a_t_way t_undos t_isSaved t_lined t_length t_at t_order t_fault t_reason t_detail t_index t_answer (0 : Int32) t_went t_fell t_now p1 r_14 hq_14) (cwV 1 hts gX8_levelSize_X8_sizeOf rfl rfl rfl (by decide +kernel) ⟨Nat.le_of_ble_eq_true rfl, Nat.le_of_ble_eq_true rfl⟩) hK hP [0, 1] rfl rfl rfl rfl hl.1 rfl (Nat.le_of_ble_eq_true rfl) dX8_levelSize_14 ⟨Nat.le_of_ble_eq_true rfl, Nat.le_of_ble_eq_true rfl⟩ ?_
    refine lv_goto (tgt := 25) hx hb dX8_levelSize_17 (by decide) ?_
    obtain ⟨e0_25, e1_25⟩ := inj2 hF
    rw [← e0_25, ← e1_25] at hQ0
    rw [hQ0]
    exact ret_i hx hb hr hlocks hAe hK hP hD hS [0, 1] rfl rfl dX8_levelSize_25
def F_X8_levelAt_49 (fl : Nat) (t_now : Nat → Int32) : Nat → Int32 → Int32 → Int32 → Int32 → Int32 → Option (Int32 × Int32)
  | 0, _, _, _, _, _ => none
  | n + 1, t_thrown_w, x1, x2, x3, x4 => if x2 ≤ x4 then (bn (F_X8_key fl t_now x3) fun r_70 => some (r_70, t_thrown_w)) else (bn (F_X8_next fl t_now x3 x1) fun r_58 => F_X8_levelAt_49 fl t_now n t_thrown_w x1 x2 r_58 (x4 + (1 : Int32)))
def F_X8_levelAt (fl : Nat) (t_thrown : Int32) (t_now : Nat → Int32) (p1 : Int32) (p2 : Int32) : Option (Int32 × Int32) := bn (F_X8_isLevel fl p1) fun r_6 => if r_6 = 0 then (bn2 (F_X8_raises fl (0 : Int32) (1 : Int32)) fun r_14 t_thrown_14 => some (r_14, t_thrown_14)) else (bn (F_X8_sizeOf fl t_now p1) fun r_22 => bn (F_X8_in fl p2 (0 : Int32) (r_22 - (1 : Int32))) fun r_27 => if r_27 = 0 then (bn2 (F_X8_raises fl (0 : Int32) (2 : Int32)) fun r_35 t_thrown_35 => some (r_35, t_thrown_35)) else (bn (F_X8_next fl t_now (-1 : Int32) p1) fun r_42 => F_X8_levelAt_49 fl t_now fl (0 : Int32) p1 p2 r_42 (0 : Int32)))
theorem iX8_levelAt_X8 : ∀ w ∈ u_ws RX8 TX8 22, w ∈ wsX8_levelAt := fun w h => List.mem_cons_of_mem _ (List.mem_append_left _ (List.mem_append_right _ h))
set_option maxHeartbeats 4000000 in
set_option maxRecDepth 100000 in
theorem c_X8_levelAt (l : Launch) (D : va_G) (y : Nat → ClassId) (fl : Nat) (sz : Nat) (a_t : Nat) (a_t_now : Nat) (a_t_tried : Nat) (a_t_kept : Nat) (a_t_saved : Nat) (a_t_line : Nat) (a_t_text : Nat) (a_t_told : Nat) (a_t_way : Nat) (t_undos : Int32) (t_isSaved : Int32) (t_lined : Int32) (t_length : Int32) (t_at : Int32) (t_order : Int32) (t_fault : Int32) (t_reason : Int32) (t_detail : Int32) (t_index : Int32) (t_answer : Int32) (t_thrown : Int32) (t_went : Int32) (t_fell : Int32) (t_now : Nat → Int32) (p1 : Int32) (p2 : Int32) (r : Int32) (t_thrown' : Int32) (hF : F_X8_levelAt fl t_thrown t_now p1 p2 = some (r, t_thrown')) : Met l yX8_levelAt wsX8_levelAt (rmq 2 44) (wrP D y [(a_t, .inr (12, [.ref a_t_now, .ref a_t_tried, .ref a_t_kept, .int t_undos, .ref a_t_saved, .int t_isSaved, .ref a_t_line, .int t_lined, .ref a_t_text, .int t_length, .int t_at, .int t_order, .ref a_t_told, .int t_fault, .int t_reason, .int t_detail, .int t_index, .int t_answer, .int t_thrown, .ref a_t_way, .int t_went, .int t_fell])), (a_t_now, .inl (y 0, 77, .inl t_now))] sz [.ref a_t, .int p1, .int p2]) (wQi D y r [(a_t, .inr (12, [.ref a_t_now, .ref a_t_tried, .ref a_t_kept, .int t_undos, .ref a_t_saved, .int t_isSaved, .ref a_t_line, .int t_lined, .ref a_t_text, .int t_length, .int t_at, .int t_order, .ref a_t_told, .int t_fault, .int t_reason, .int t_detail, .int t_index, .int t_answer, .int t_thrown', .ref a_t_way, .int t_went, .int t_fell])), (a_t_now, .inl (y 0, 77, .inl t_now))] [(a_t, .inr (12, [.ref a_t_now, .ref a_t_tried, .ref a_t_kept, .int t_undos, .ref a_t_saved, .int t_isSaved, .ref a_t_line, .int t_lined, .ref a_t_text, .int t_length, .int t_at, .int t_order, .ref a_t_told, .int t_fault, .int t_reason, .int t_detail, .int t_index, .int t_answer, .int t_thrown, .ref a_t_way, .int t_went, .int t_fell])), (a_t_now, .inl (y 0, 77, .inl t_now))] sz) 0 0 (va_A [(a_t, .inr (12, [.ref a_t_now, .ref a_t_tried, .ref a_t_kept, .int t_undos, .ref a_t_saved, .int t_isSaved, .ref a_t_line, .int t_lined, .ref a_t_text, .int t_length, .int t_at, .int t_order, .ref a_t_told, .int t_fault, .int t_reason, .int t_detail, .int t_index, .int t_answer, .int t_thrown, .ref a_t_way, .int t_went, .int t_fell])), (a_t_now, .inl (y 0, 77, .inl t_now))] sz) := by
  refine Met.ofW (cc := cX8_levelAt) (maxL := 5) (ret := (some .int)) (by decide) rfl ?_
  intro p e s m args below meth c s₁ B hml hv
  obtain ⟨hav, hsz, hP, hK, hD0⟩ := hv
  have hx := B.exec
  have hb := B.bytes
  have hr := B.returns
  have hts := atoms_spec (ws := wsX8_levelAt) B.pre
  have hown : s.vm.findClass RX8 = some m.cls := findClass_of_methodNamed B.named
  have hlocks := B.notSynchronized
  subst hsz
  have hD := hD0.self (sz := s.heap.size)
  obtain ⟨A, hAe⟩ : ∃ A : Nat → Prop, va_A [(a_t, .inr (12, [.ref a_t_now, .ref a_t_tried, .ref a_t_kept, .int t_undos, .ref a_t_saved, .int t_isSaved, .ref a_t_line, .int t_lined, .ref a_t_text, .int t_length, .int t_at, .int t_order, .ref a_t_told, .int t_fault, .int t_reason, .int t_detail, .int t_index, .int t_answer, .int t_thrown, .ref a_t_way, .int t_went, .int t_fell])), (a_t_now, .inl (y 0, 77, .inl t_now))] s.heap.size = A := ⟨_, rfl⟩
  rw [hAe] at hD
  have hA : ∀ q, s.heap.size ≤ q → A q := fun q h => by rw [← hAe]; exact Or.inr h
  have hS : va_S A s.heap s.heap [] := va_S.rf
  refine W_q (R1 := (rmq 2 44)) rfl (fun Q0 hQ0 => ?_)
  unfold F_X8_levelAt at hF
  have k_49 : ∀ (n : Nat) (t_thrown_w : Int32) (x1 : Int32) (x2 : Int32) (x3 : Int32) (x4 : Int32), F_X8_levelAt_49 fl t_now n t_thrown_w x1 x2 x3 x4 = some (r, t_thrown') → ∀ (H : Heap) (locs : List Loc), va_P D vwCl [(a_t, .inr (12, [.ref a_t_now, .ref a_t_tried, .ref a_t_kept, .int t_undos, .ref a_t_saved, .int t_isSaved, .ref a_t_line, .int t_lined, .ref a_t_text, .int t_length, .int t_at, .int t_order, .ref a_t_told, .int t_fault, .int t_reason, .int t_detail, .int t_index, .int t_answer, .int t_thrown_w, .ref a_t_way, .int t_went, .int t_fell])), (a_t_now, .inl (y 0, 77, .inl t_now))] H → va_D A [(a_t, .inr (12, [.ref a_t_now, .ref a_t_tried, .ref a_t_kept, .int t_undos, .ref a_t_saved, .int t_isSaved, .ref a_t_line, .int t_lined, .ref a_t_text, .int t_length, .int t_at, .int t_order, .ref a_t_told, .int t_fault, .int t_reason, .int t_detail, .int t_index, .int t_answer, .int t_thrown_w, .ref a_t_way, .int t_went, .int t_fell])), (a_t_now, .inl (y 0, 77, .inl t_now))] → va_S A s.heap H locs → ∀ (ls : Array Slot), lv_has ls 5 [(0, .ref a_t), (1, .int x1), (2, .int x2), (3, .int x3), (4, .int x4)] → W p l e (rmq 2 44) s m args below meth c H locs 0 0 Q0 (F0 m 49 ls []) := by
    intro n
    induction n with
    | zero => intro t_thrown_w x1 x2 x3 x4 hF; rw [F_X8_levelAt_49] at hF; cases hF
    | succ n ih =>
      intro t_thrown_w x1 x2 x3 x4 hF H locs hP hD hS ls hl
      rw [F_X8_levelAt_49] at hF
      refine lv_iload hx hb dX8_levelAt_49 (lv_at hl 4 rfl) ?_
      refine lv_iload_n hx hb dX8_levelAt_51 rfl (lv_at hl 2 rfl) ?_
      refine lv_icmp_ge (tgt := 68) hx hb dX8_levelAt_52 (by decide) (fun c_52 => ?_) (fun c_52 => ?_)
      · have hF := ift hF c_52
        refine lv_aload_n hx hb dX8_levelAt_68 rfl (lv_at hl 0 rfl) ?_
        refine lv_iload_n hx hb dX8_levelAt_69 rfl (lv_at hl 3 rfl) ?_
        obtain ⟨r_70, hq_70, hF⟩ := bn_i hF
        refine cr_V (As := [.int x3]) (rest := []) ⟨hx, hb, hml, hown, hts⟩ (c_X8_key l D y fl a_t a_t_now a_t_tried a_t_kept a_t_saved a_t_line a_t_text a_t_told a_t_way t_undos t_isSaved t_lined t_length t_at t_order t_fault t_reason t_detail t_index t_answer t_thrown_w t_went t_fell t_now x3 r_70 hq_70) (cwV 1 hts gX8_levelAt_X8_key rfl rfl rfl (by decide +kernel) ⟨Nat.le_of_ble_eq_true rfl, Nat.le_of_ble_eq_true rfl⟩) hK hP [0, 1] rfl rfl rfl rfl hl.1 rfl (Nat.le_of_ble_eq_true rfl) dX8_levelAt_70 ⟨Nat.le_of_ble_eq_true rfl, Nat.le_of_ble_eq_true rfl⟩ ?_
        obtain ⟨e0_73, e1_73⟩ := inj2 hF
        rw [← e0_73, ← e1_73] at hQ0
        rw [hQ0]
        exact ret_i hx hb hr hlocks hAe hK hP hD hS [0, 1] rfl rfl dX8_levelAt_73
      · have hF := iff_ hF c_52
        refine lv_aload_n hx hb dX8_levelAt_55 rfl (lv_at hl 0 rfl) ?_
        refine lv_iload_n hx hb dX8_levelAt_56 rfl (lv_at hl 3 rfl) ?_
        refine lv_iload_n hx hb dX8_levelAt_57 rfl (lv_at hl 1 rfl) ?_
        obtain ⟨r_58, hq_58, hF⟩ := bn_i hF
        refine cr_V (As := [.int x3, .int x1]) (rest := []) ⟨hx, hb, hml, hown, hts⟩ (c_X8_next l D y fl a_t a_t_now a_t_tried a_t_kept a_t_saved a_t_line a_t_text a_t_told a_t_way t_undos t_isSaved t_lined t_length t_at t_order t_fault t_reason t_detail t_index t_answer t_thrown_w t_went t_fell t_now x3 x1 r_58 hq_58) (cwV 2 hts gX8_levelAt_X8_next rfl rfl rfl (by decide +kernel) ⟨Nat.le_of_ble_eq_true rfl, Nat.le_of_ble_eq_true rfl⟩) hK hP [0, 1] rfl rfl rfl rfl hl.1 rfl (Nat.le_of_ble_eq_true rfl) dX8_levelAt_58 ⟨Nat.le_of_ble_eq_true rfl, Nat.le_of_ble_eq_true rfl⟩ ?_
        refine lv_istore_n (lv' := [(3, .int r_58), (0, .ref a_t), (1, .int x1), (2, .int x2), (4, .int x4)]) hx hb dX8_levelAt_61 rfl hl (by decide) rfl (fun ls hl => ?_)
        refine lv_iinc (v := x4 + (1 : Int32)) (lv' := [(4, .int (x4 + (1 : Int32))), (3, .int r_58), (0, .ref a_t), (1, .int x1), (2, .int x2)]) hx hb dX8_levelAt_62 hl (k := 4) rfl rfl (by decide) rfl (fun ls hl => ?_)
        refine lv_goto (tgt := 49) hx hb dX8_levelAt_65 (by decide) ?_
        exact ih t_thrown_w x1 x2 r_58 (x4 + (1 : Int32)) hF _ _ hP hD hS ls (lv_sub hl [2, 3, 4, 1, 0] rfl)
  refine W_entry hav (Nat.le_of_ble_eq_true rfl) (fun ls hl => ?_)
  have hl : lv_has ls 5 [(0, .ref a_t), (1, .int p1), (2, .int p2)] := hl
  refine lv_aload_n hx hb dX8_levelAt_0 rfl (lv_at hl 0 rfl) ?_
  refine lv_iconst (v := 0) hx hb dX8_levelAt_1 (by decide) ?_
  refine va_put (D := D) (ci := 12) (v := .int (0 : Int32)) (ty := .int) (C := RX8) (T := TX8) (N := 22) hx hb hts iX8_levelAt_X8 tyX8 tyX8_ok nmX8 hown hK hP hD hS 0 rfl rfl 18 (by decide) (hts (.fieldLink RX8 39 "SkipArchiveModel" "thrown" "I") (List.mem_of_getElem? (i := 1) rfl)) (fun _ h9 => h9) rfl (by decide +kernel) rfl rfl (Nat.le_of_ble_eq_true rfl) dX8_levelAt_2 (fun H locs hP hD hS => ?_)
  have hP : va_P D vwCl [(a_t, .inr (12, [.ref a_t_now, .ref a_t_tried, .ref a_t_kept, .int t_undos, .ref a_t_saved, .int t_isSaved, .ref a_t_line, .int t_lined, .ref a_t_text, .int t_length, .int t_at, .int t_order, .ref a_t_told, .int t_fault, .int t_reason, .int t_detail, .int t_index, .int t_answer, .int (0 : Int32), .ref a_t_way, .int t_went, .int t_fell])), (a_t_now, .inl (y 0, 77, .inl t_now))] H := hP
  have hD : va_D A [(a_t, .inr (12, [.ref a_t_now, .ref a_t_tried, .ref a_t_kept, .int t_undos, .ref a_t_saved, .int t_isSaved, .ref a_t_line, .int t_lined, .ref a_t_text, .int t_length, .int t_at, .int t_order, .ref a_t_told, .int t_fault, .int t_reason, .int t_detail, .int t_index, .int t_answer, .int (0 : Int32), .ref a_t_way, .int t_went, .int t_fell])), (a_t_now, .inl (y 0, 77, .inl t_now))] := hD
  refine lv_iload_n hx hb dX8_levelAt_5 rfl (lv_at hl 1 rfl) ?_
  obtain ⟨r_6, hq_6, hF⟩ := bn_i hF
  refine cr_S (As := [.int p1]) (rest := []) ⟨hx, hb, hml, hown, hts⟩ (c_X8_isLevel l D y fl p1 r_6 hq_6) (va_cwS 1 hts gX8_levelAt_X8_isLevel rfl rfl rfl (by decide +kernel) ⟨Nat.le_of_ble_eq_true rfl, Nat.le_of_ble_eq_true rfl⟩) hK hP [] rfl rfl hl.1 rfl (Nat.le_of_ble_eq_true rfl) dX8_levelAt_6 ⟨Nat.le_of_ble_eq_true rfl, Nat.le_of_ble_eq_true rfl⟩ ?_
  refine lv_if_ne (tgt := 18) hx hb dX8_levelAt_9 (by decide) (fun c_9 => ?_) (fun c_9 => ?_)
  · have hF := iff_ hF c_9
    refine lv_iload_n hx hb dX8_levelAt_18 rfl (lv_at hl 2 rfl) ?_
    refine lv_iconst (v := 0) hx hb dX8_levelAt_19 (by decide) ?_
    refine lv_aload_n hx hb dX8_levelAt_20 rfl (lv_at hl 0 rfl) ?_
    refine lv_iload_n hx hb dX8_levelAt_21 rfl (lv_at hl 1 rfl) ?_
    obtain ⟨r_22, hq_22, hF⟩ := bn_i hF
    refine cr_V (As := [.int p1]) (rest := [.int (0 : Int32), .int p2]) ⟨hx, hb, hml, hown, hts⟩ (c_X8_sizeOf l D y fl a_t a_t_now a_t_tried a_t_kept a_t_saved a_t_line a_t_text a_t_told a_t_way t_undos t_isSaved t_lined t_length t_at t_order t_fault t_reason t_detail t_index t_answer (0 : Int32) t_went t_fell t_now p1 r_22 hq_22) (cwV 1 hts gX8_levelAt_X8_sizeOf rfl rfl rfl (by decide +kernel) ⟨Nat.le_of_ble_eq_true rfl, Nat.le_of_ble_eq_true rfl⟩) hK hP [0, 1] rfl rfl rfl rfl hl.1 rfl (Nat.le_of_ble_eq_true rfl) dX8_levelAt_22 ⟨Nat.le_of_ble_eq_true rfl, Nat.le_of_ble_eq_true rfl⟩ ?_
    refine lv_iconst (v := 1) hx hb dX8_levelAt_25 (by decide) ?_
    refine lv_isub hx hb dX8_levelAt_26 ?_
    obtain ⟨r_27, hq_27, hF⟩ := bn_i hF
    refine cr_S (As := [.int p2, .int (0 : Int32), .int (r_22 - (1 : Int32))]) (rest := []) ⟨hx, hb, hml, hown, hts⟩ (c_X8_in l D y fl p2 (0 : Int32) (r_22 - (1 : Int32)) r_27 hq_27) (va_cwS 3 hts gX8_levelAt_X8_in rfl rfl rfl (by decide +kernel) ⟨Nat.le_of_ble_eq_true rfl, Nat.le_of_ble_eq_true rfl⟩) hK hP [] rfl rfl hl.1 rfl (Nat.le_of_ble_eq_true rfl) dX8_levelAt_27 ⟨Nat.le_of_ble_eq_true rfl, Nat.le_of_ble_eq_true rfl⟩ ?_
    refine lv_if_ne (tgt := 39) hx hb dX8_levelAt_30 (by decide) (fun c_30 => ?_) (fun c_30 => ?_)
    · have hF := iff_ hF c_30
      refine lv_aload_n hx hb dX8_levelAt_39 rfl (lv_at hl 0 rfl) ?_
      refine lv_iconst (v := -1) hx hb dX8_levelAt_40 (by decide) ?_
      refine lv_iload_n hx hb dX8_levelAt_41 rfl (lv_at hl 1 rfl) ?_
      obtain ⟨r_42, hq_42, hF⟩ := bn_i hF
      refine cr_V (As := [.int (-1 : Int32), .int p1]) (rest := []) ⟨hx, hb, hml, hown, hts⟩ (c_X8_next l D y fl a_t a_t_now a_t_tried a_t_kept a_t_saved a_t_line a_t_text a_t_told a_t_way t_undos t_isSaved t_lined t_length t_at t_order t_fault t_reason t_detail t_index t_answer (0 : Int32) t_went t_fell t_now (-1 : Int32) p1 r_42 hq_42) (cwV 2 hts gX8_levelAt_X8_next rfl rfl rfl (by decide +kernel) ⟨Nat.le_of_ble_eq_true rfl, Nat.le_of_ble_eq_true rfl⟩) hK hP [0, 1] rfl rfl rfl rfl hl.1 rfl (Nat.le_of_ble_eq_true rfl) dX8_levelAt_42 ⟨Nat.le_of_ble_eq_true rfl, Nat.le_of_ble_eq_true rfl⟩ ?_
      refine lv_istore_n (lv' := [(3, .int r_42), (0, .ref a_t), (1, .int p1), (2, .int p2)]) hx hb dX8_levelAt_45 rfl hl (by decide) rfl (fun ls hl => ?_)
      refine lv_iconst (v := 0) hx hb dX8_levelAt_46 (by decide) ?_
      refine lv_istore (lv' := [(4, .int (0 : Int32)), (3, .int r_42), (0, .ref a_t), (1, .int p1), (2, .int p2)]) hx hb dX8_levelAt_47 hl (by decide) rfl (fun ls hl => ?_)
      exact k_49 fl (0 : Int32) p1 p2 r_42 (0 : Int32) hF _ _ hP hD hS ls (lv_sub hl [2, 3, 4, 1, 0] rfl)
    · have hF := ift hF c_30
      refine lv_aload_n hx hb dX8_levelAt_33 rfl (lv_at hl 0 rfl) ?_
      refine lv_iconst (v := 2) hx hb dX8_levelAt_34 (by decide) ?_
      obtain ⟨r_35, t_thrown_35, hq_35, hF⟩ := bn2_i hF
      refine cm_Vi (As := [.int (2 : Int32)]) (rest := []) (wr := [(a_t_now, .inl (y 0, 77, .inl t_now))]) ⟨hx, hb, hml, hown, hts⟩ (c_X8_raises l D y fl H.size a_t a_t_now a_t_tried a_t_kept a_t_saved a_t_line a_t_text a_t_told a_t_way t_undos t_isSaved t_lined t_length t_at t_order t_fault t_reason t_detail t_index t_answer (0 : Int32) t_went t_fell (2 : Int32) r_35 t_thrown_35 hq_35) (cwV 1 hts gX8_levelAt_X8_raises rfl rfl rfl (by decide +kernel) ⟨Nat.le_of_ble_eq_true rfl, Nat.le_of_ble_eq_true rfl⟩) hK hP hD hS hA [0] [1] rfl rfl rfl rfl (by decide) rfl rfl rfl hl.1 rfl (Nat.le_of_ble_eq_true rfl) dX8_levelAt_35 ⟨Nat.le_of_ble_eq_true rfl, Nat.le_of_ble_eq_true rfl⟩ (fun H locs hP hD hS => ?_)
      have hP : va_P D vwCl [(a_t_now, .inl (y 0, 77, .inl t_now)), (a_t, .inr (12, [.ref a_t_now, .ref a_t_tried, .ref a_t_kept, .int t_undos, .ref a_t_saved, .int t_isSaved, .ref a_t_line, .int t_lined, .ref a_t_text, .int t_length, .int t_at, .int t_order, .ref a_t_told, .int t_fault, .int t_reason, .int t_detail, .int t_index, .int t_answer, .int t_thrown_35, .ref a_t_way, .int t_went, .int t_fell]))] H := hP
      have hD : va_D A [(a_t_now, .inl (y 0, 77, .inl t_now)), (a_t, .inr (12, [.ref a_t_now, .ref a_t_tried, .ref a_t_kept, .int t_undos, .ref a_t_saved, .int t_isSaved, .ref a_t_line, .int t_lined, .ref a_t_text, .int t_length, .int t_at, .int t_order, .ref a_t_told, .int t_fault, .int t_reason, .int t_detail, .int t_index, .int t_answer, .int t_thrown_35, .ref a_t_way, .int t_went, .int t_fell]))] := hD
      obtain ⟨e0_38, e1_38⟩ := inj2 hF
      rw [← e0_38, ← e1_38] at hQ0
      rw [hQ0]
      exact ret_i hx hb hr hlocks hAe hK hP hD hS [1, 0] rfl rfl dX8_levelAt_38
  · have hF := ift hF c_9
    refine lv_aload_n hx hb dX8_levelAt_12 rfl (lv_at hl 0 rfl) ?_
    refine lv_iconst (v := 1) hx hb dX8_levelAt_13 (by decide) ?_
    obtain ⟨r_14, t_thrown_14, hq_14, hF⟩ := bn2_i hF
    refine cm_Vi (As := [.int (1 : Int32)]) (rest := []) (wr := [(a_t_now, .inl (y 0, 77, .inl t_now))]) ⟨hx, hb, hml, hown, hts⟩ (c_X8_raises l D y fl H.size a_t a_t_now a_t_tried a_t_kept a_t_saved a_t_line a_t_text a_t_told a_t_way t_undos t_isSaved t_lined t_length t_at t_order t_fault t_reason t_detail t_index t_answer (0 : Int32) t_went t_fell (1 : Int32) r_14 t_thrown_14 hq_14) (cwV 1 hts gX8_levelAt_X8_raises rfl rfl rfl (by decide +kernel) ⟨Nat.le_of_ble_eq_true rfl, Nat.le_of_ble_eq_true rfl⟩) hK hP hD hS hA [0] [1] rfl rfl rfl rfl (by decide) rfl rfl rfl hl.1 rfl (Nat.le_of_ble_eq_true rfl) dX8_levelAt_14 ⟨Nat.le_of_ble_eq_true rfl, Nat.le_of_ble_eq_true rfl⟩ (fun H locs hP hD hS => ?_)
    have hP : va_P D vwCl [(a_t_now, .inl (y 0, 77, .inl t_now)), (a_t, .inr (12, [.ref a_t_now, .ref a_t_tried, .ref a_t_kept, .int t_undos, .ref a_t_saved, .int t_isSaved, .ref a_t_line, .int t_lined, .ref a_t_text, .int t_length, .int t_at, .int t_order, .ref a_t_told, .int t_fault, .int t_reason, .int t_detail, .int t_index, .int t_answer, .int t_thrown_14, .ref a_t_way, .int t_went, .int t_fell]))] H := hP
    have hD : va_D A [(a_t_now, .inl (y 0, 77, .inl t_now)), (a_t, .inr (12, [.ref a_t_now, .ref a_t_tried, .ref a_t_kept, .int t_undos, .ref a_t_saved, .int t_isSaved, .ref a_t_line, .int t_lined, .ref a_t_text, .int t_length, .int t_at, .int t_order, .ref a_t_told, .int t_fault, .int t_reason, .int t_detail, .int t_index, .int t_answer, .int t_thrown_14, .ref a_t_way, .int t_went, .int t_fell]))] := hD
    obtain ⟨e0_17, e1_17⟩ := inj2 hF
    rw [← e0_17, ← e1_17] at hQ0
    rw [hQ0]
    exact ret_i hx hb hr hlocks hAe hK hP hD hS [1, 0] rfl rfl dX8_levelAt_17
def F_X8_span (fl : Nat) (t_thrown : Int32) (t_now : Nat → Int32) (p1 : Int32) (p2 : Int32) : Option (Int32 × Int32) := bn (F_X8_isLevel fl p2) fun r_6 => if r_6 = 0 then (bn2 (F_X8_raises fl (0 : Int32) (1 : Int32)) fun r_14 t_thrown_14 => some (r_14, t_thrown_14)) else (bn (F_X8_isKey fl p1) fun r_19 => if r_19 = 0 then (bn2 (F_X8_raises fl (0 : Int32) (2 : Int32)) fun r_27 t_thrown_27 => some (r_27, t_thrown_27)) else (bn (F_X8_find fl t_now p1) fun r_33 => if r_33 < 0 then (bn2 (F_X8_raises fl (0 : Int32) (3 : Int32)) fun r_52 t_thrown_52 => some (r_52, t_thrown_52)) else (bn (F_X8_rungs fl t_now r_33) fun r_43 => if p2 < r_43 then (bn (F_X8_next fl t_now r_33 p2) fun r_61 => some (r_61 - r_33, (0 : Int32))) else (bn2 (F_X8_raises fl (0 : Int32) (3 : Int32)) fun r_52b t_thrown_52b => some (r_52b, t_thrown_52b)))))
theorem iX8_span_X8 : ∀ w ∈ u_ws RX8 TX8 22, w ∈ wsX8_span := fun w h => List.mem_cons_of_mem _ (List.mem_append_left _ (List.mem_append_right _ h))
set_option maxHeartbeats 4000000 in
set_option maxRecDepth 100000 in
theorem c_X8_span (l : Launch) (D : va_G) (y : Nat → ClassId) (fl : Nat) (sz : Nat) (a_t : Nat) (a_t_now : Nat) (a_t_tried : Nat) (a_t_kept : Nat) (a_t_saved : Nat) (a_t_line : Nat) (a_t_text : Nat) (a_t_told : Nat) (a_t_way : Nat) (t_undos : Int32) (t_isSaved : Int32) (t_lined : Int32) (t_length : Int32) (t_at : Int32) (t_order : Int32) (t_fault : Int32) (t_reason : Int32) (t_detail : Int32) (t_index : Int32) (t_answer : Int32) (t_thrown : Int32) (t_went : Int32) (t_fell : Int32) (t_now : Nat → Int32) (p1 : Int32) (p2 : Int32) (r : Int32) (t_thrown' : Int32) (hF : F_X8_span fl t_thrown t_now p1 p2 = some (r, t_thrown')) : Met l yX8_span wsX8_span (rmq 3 66) (wrP D y [(a_t, .inr (12, [.ref a_t_now, .ref a_t_tried, .ref a_t_kept, .int t_undos, .ref a_t_saved, .int t_isSaved, .ref a_t_line, .int t_lined, .ref a_t_text, .int t_length, .int t_at, .int t_order, .ref a_t_told, .int t_fault, .int t_reason, .int t_detail, .int t_index, .int t_answer, .int t_thrown, .ref a_t_way, .int t_went, .int t_fell])), (a_t_now, .inl (y 0, 77, .inl t_now))] sz [.ref a_t, .int p1, .int p2]) (wQi D y r [(a_t, .inr (12, [.ref a_t_now, .ref a_t_tried, .ref a_t_kept, .int t_undos, .ref a_t_saved, .int t_isSaved, .ref a_t_line, .int t_lined, .ref a_t_text, .int t_length, .int t_at, .int t_order, .ref a_t_told, .int t_fault, .int t_reason, .int t_detail, .int t_index, .int t_answer, .int t_thrown', .ref a_t_way, .int t_went, .int t_fell])), (a_t_now, .inl (y 0, 77, .inl t_now))] [(a_t, .inr (12, [.ref a_t_now, .ref a_t_tried, .ref a_t_kept, .int t_undos, .ref a_t_saved, .int t_isSaved, .ref a_t_line, .int t_lined, .ref a_t_text, .int t_length, .int t_at, .int t_order, .ref a_t_told, .int t_fault, .int t_reason, .int t_detail, .int t_index, .int t_answer, .int t_thrown, .ref a_t_way, .int t_went, .int t_fell])), (a_t_now, .inl (y 0, 77, .inl t_now))] sz) 0 0 (va_A [(a_t, .inr (12, [.ref a_t_now, .ref a_t_tried, .ref a_t_kept, .int t_undos, .ref a_t_saved, .int t_isSaved, .ref a_t_line, .int t_lined, .ref a_t_text, .int t_length, .int t_at, .int t_order, .ref a_t_told, .int t_fault, .int t_reason, .int t_detail, .int t_index, .int t_answer, .int t_thrown, .ref a_t_way, .int t_went, .int t_fell])), (a_t_now, .inl (y 0, 77, .inl t_now))] sz) := by
  refine Met.ofW (cc := cX8_span) (maxL := 4) (ret := (some .int)) (by decide) rfl ?_
  intro p e s m args below meth c s₁ B hml hv
  obtain ⟨hav, hsz, hP, hK, hD0⟩ := hv
  have hx := B.exec
  have hb := B.bytes
  have hr := B.returns
  have hts := atoms_spec (ws := wsX8_span) B.pre
  have hown : s.vm.findClass RX8 = some m.cls := findClass_of_methodNamed B.named
  have hlocks := B.notSynchronized
  subst hsz
  have hD := hD0.self (sz := s.heap.size)
  obtain ⟨A, hAe⟩ : ∃ A : Nat → Prop, va_A [(a_t, .inr (12, [.ref a_t_now, .ref a_t_tried, .ref a_t_kept, .int t_undos, .ref a_t_saved, .int t_isSaved, .ref a_t_line, .int t_lined, .ref a_t_text, .int t_length, .int t_at, .int t_order, .ref a_t_told, .int t_fault, .int t_reason, .int t_detail, .int t_index, .int t_answer, .int t_thrown, .ref a_t_way, .int t_went, .int t_fell])), (a_t_now, .inl (y 0, 77, .inl t_now))] s.heap.size = A := ⟨_, rfl⟩
  rw [hAe] at hD
  have hA : ∀ q, s.heap.size ≤ q → A q := fun q h => by rw [← hAe]; exact Or.inr h
  have hS : va_S A s.heap s.heap [] := va_S.rf
  refine W_q (R1 := (rmq 3 66)) rfl (fun Q0 hQ0 => ?_)
  unfold F_X8_span at hF
  refine W_entry hav (Nat.le_of_ble_eq_true rfl) (fun ls hl => ?_)
  have hl : lv_has ls 4 [(0, .ref a_t), (1, .int p1), (2, .int p2)] := hl
  refine lv_aload_n hx hb dX8_span_0 rfl (lv_at hl 0 rfl) ?_
  refine lv_iconst (v := 0) hx hb dX8_span_1 (by decide) ?_
  refine va_put (D := D) (ci := 12) (v := .int (0 : Int32)) (ty := .int) (C := RX8) (T := TX8) (N := 22) hx hb hts iX8_span_X8 tyX8 tyX8_ok nmX8 hown hK hP hD hS 0 rfl rfl 18 (by decide) (hts (.fieldLink RX8 39 "SkipArchiveModel" "thrown" "I") (List.mem_of_getElem? (i := 1) rfl)) (fun _ h9 => h9) rfl (by decide +kernel) rfl rfl (Nat.le_of_ble_eq_true rfl) dX8_span_2 (fun H locs hP hD hS => ?_)
  have hP : va_P D vwCl [(a_t, .inr (12, [.ref a_t_now, .ref a_t_tried, .ref a_t_kept, .int t_undos, .ref a_t_saved, .int t_isSaved, .ref a_t_line, .int t_lined, .ref a_t_text, .int t_length, .int t_at, .int t_order, .ref a_t_told, .int t_fault, .int t_reason, .int t_detail, .int t_index, .int t_answer, .int (0 : Int32), .ref a_t_way, .int t_went, .int t_fell])), (a_t_now, .inl (y 0, 77, .inl t_now))] H := hP
  have hD : va_D A [(a_t, .inr (12, [.ref a_t_now, .ref a_t_tried, .ref a_t_kept, .int t_undos, .ref a_t_saved, .int t_isSaved, .ref a_t_line, .int t_lined, .ref a_t_text, .int t_length, .int t_at, .int t_order, .ref a_t_told, .int t_fault, .int t_reason, .int t_detail, .int t_index, .int t_answer, .int (0 : Int32), .ref a_t_way, .int t_went, .int t_fell])), (a_t_now, .inl (y 0, 77, .inl t_now))] := hD
  refine lv_iload_n hx hb dX8_span_5 rfl (lv_at hl 2 rfl) ?_
  obtain ⟨r_6, hq_6, hF⟩ := bn_i hF
  refine cr_S (As := [.int p2]) (rest := []) ⟨hx, hb, hml, hown, hts⟩ (c_X8_isLevel l D y fl p2 r_6 hq_6) (va_cwS 1 hts gX8_span_X8_isLevel rfl rfl rfl (by decide +kernel) ⟨Nat.le_of_ble_eq_true rfl, Nat.le_of_ble_eq_true rfl⟩) hK hP [] rfl rfl hl.1 rfl (Nat.le_of_ble_eq_true rfl) dX8_span_6 ⟨Nat.le_of_ble_eq_true rfl, Nat.le_of_ble_eq_true rfl⟩ ?_
  refine lv_if_ne (tgt := 18) hx hb dX8_span_9 (by decide) (fun c_9 => ?_) (fun c_9 => ?_)
  · have hF := iff_ hF c_9
    refine lv_iload_n hx hb dX8_span_18 rfl (lv_at hl 1 rfl) ?_
    obtain ⟨r_19, hq_19, hF⟩ := bn_i hF
    refine cr_S (As := [.int p1]) (rest := []) ⟨hx, hb, hml, hown, hts⟩ (c_X8_isKey l D y fl p1 r_19 hq_19) (va_cwS 1 hts gX8_span_X8_isKey rfl rfl rfl (by decide +kernel) ⟨Nat.le_of_ble_eq_true rfl, Nat.le_of_ble_eq_true rfl⟩) hK hP [] rfl rfl hl.1 rfl (Nat.le_of_ble_eq_true rfl) dX8_span_19 ⟨Nat.le_of_ble_eq_true rfl, Nat.le_of_ble_eq_true rfl⟩ ?_
    refine lv_if_ne (tgt := 31) hx hb dX8_span_22 (by decide) (fun c_22 => ?_) (fun c_22 => ?_)
    · have hF := iff_ hF c_22
      refine lv_aload_n hx hb dX8_span_31 rfl (lv_at hl 0 rfl) ?_
      refine lv_iload_n hx hb dX8_span_32 rfl (lv_at hl 1 rfl) ?_
      obtain ⟨r_33, hq_33, hF⟩ := bn_i hF
      refine cr_V (As := [.int p1]) (rest := []) ⟨hx, hb, hml, hown, hts⟩ (c_X8_find l D y fl a_t a_t_now a_t_tried a_t_kept a_t_saved a_t_line a_t_text a_t_told a_t_way t_undos t_isSaved t_lined t_length t_at t_order t_fault t_reason t_detail t_index t_answer (0 : Int32) t_went t_fell t_now p1 r_33 hq_33) (cwV 1 hts gX8_span_X8_find rfl rfl rfl (by decide +kernel) ⟨Nat.le_of_ble_eq_true rfl, Nat.le_of_ble_eq_true rfl⟩) hK hP [0, 1] rfl rfl rfl rfl hl.1 rfl (Nat.le_of_ble_eq_true rfl) dX8_span_33 ⟨Nat.le_of_ble_eq_true rfl, Nat.le_of_ble_eq_true rfl⟩ ?_
      refine lv_istore_n (lv' := [(3, .int r_33), (0, .ref a_t), (1, .int p1), (2, .int p2)]) hx hb dX8_span_36 rfl hl (by decide) rfl (fun ls hl => ?_)
      refine lv_iload_n hx hb dX8_span_37 rfl (lv_at hl 0 rfl) ?_
      refine lv_if_lt (tgt := 50) hx hb dX8_span_38 (by decide) (fun c_38 => ?_) (fun c_38 => ?_)
      · have hF := ift hF c_38
        refine lv_aload_n hx hb dX8_span_50 rfl (lv_at hl 1 rfl) ?_
        refine lv_iconst (v := 3) hx hb dX8_span_51 (by decide) ?_
        obtain ⟨r_52, t_thrown_52, hq_52, hF⟩ := bn2_i hF
        refine cm_Vi (As := [.int (3 : Int32)]) (rest := []) (wr := [(a_t_now, .inl (y 0, 77, .inl t_now))]) ⟨hx, hb, hml, hown, hts⟩ (c_X8_raises l D y fl H.size a_t a_t_now a_t_tried a_t_kept a_t_saved a_t_line a_t_text a_t_told a_t_way t_undos t_isSaved t_lined t_length t_at t_order t_fault t_reason t_detail t_index t_answer (0 : Int32) t_went t_fell (3 : Int32) r_52 t_thrown_52 hq_52) (cwV 1 hts gX8_span_X8_raises rfl rfl rfl (by decide +kernel) ⟨Nat.le_of_ble_eq_true rfl, Nat.le_of_ble_eq_true rfl⟩) hK hP hD hS hA [0] [1] rfl rfl rfl rfl (by decide) rfl rfl rfl hl.1 rfl (Nat.le_of_ble_eq_true rfl) dX8_span_52 ⟨Nat.le_of_ble_eq_true rfl, Nat.le_of_ble_eq_true rfl⟩ (fun H locs hP hD hS => ?_)
        have hP : va_P D vwCl [(a_t_now, .inl (y 0, 77, .inl t_now)), (a_t, .inr (12, [.ref a_t_now, .ref a_t_tried, .ref a_t_kept, .int t_undos, .ref a_t_saved, .int t_isSaved, .ref a_t_line, .int t_lined, .ref a_t_text, .int t_length, .int t_at, .int t_order, .ref a_t_told, .int t_fault, .int t_reason, .int t_detail, .int t_index, .int t_answer, .int t_thrown_52, .ref a_t_way, .int t_went, .int t_fell]))] H := hP
        have hD : va_D A [(a_t_now, .inl (y 0, 77, .inl t_now)), (a_t, .inr (12, [.ref a_t_now, .ref a_t_tried, .ref a_t_kept, .int t_undos, .ref a_t_saved, .int t_isSaved, .ref a_t_line, .int t_lined, .ref a_t_text, .int t_length, .int t_at, .int t_order, .ref a_t_told, .int t_fault, .int t_reason, .int t_detail, .int t_index, .int t_answer, .int t_thrown_52, .ref a_t_way, .int t_went, .int t_fell]))] := hD
        refine lv_goto (tgt := 66) hx hb dX8_span_55 (by decide) ?_
        obtain ⟨e0_66, e1_66⟩ := inj2 hF
        rw [← e0_66, ← e1_66] at hQ0
        rw [hQ0]
        exact ret_i hx hb hr hlocks hAe hK hP hD hS [1, 0] rfl rfl dX8_span_66
      · have hF := iff_ hF c_38
        refine lv_aload_n hx hb dX8_span_41 rfl (lv_at hl 1 rfl) ?_
        refine lv_iload_n hx hb dX8_span_42 rfl (lv_at hl 0 rfl) ?_
        obtain ⟨r_43, hq_43, hF⟩ := bn_i hF
        refine cr_V (As := [.int r_33]) (rest := []) ⟨hx, hb, hml, hown, hts⟩ (c_X8_rungs l D y fl a_t a_t_now a_t_tried a_t_kept a_t_saved a_t_line a_t_text a_t_told a_t_way t_undos t_isSaved t_lined t_length t_at t_order t_fault t_reason t_detail t_index t_answer (0 : Int32) t_went t_fell t_now r_33 r_43 hq_43) (cwV 1 hts gX8_span_X8_rungs rfl rfl rfl (by decide +kernel) ⟨Nat.le_of_ble_eq_true rfl, Nat.le_of_ble_eq_true rfl⟩) hK hP [0, 1] rfl rfl rfl rfl hl.1 rfl (Nat.le_of_ble_eq_true rfl) dX8_span_43 ⟨Nat.le_of_ble_eq_true rfl, Nat.le_of_ble_eq_true rfl⟩ ?_
        refine lv_iload_n hx hb dX8_span_46 rfl (lv_at hl 3 rfl) ?_
        refine lv_icmp_gt (tgt := 58) hx hb dX8_span_47 (by decide) (fun c_47 => ?_) (fun c_47 => ?_)
        · have hF := ift hF c_47
          refine lv_aload_n hx hb dX8_span_58 rfl (lv_at hl 1 rfl) ?_
          refine lv_iload_n hx hb dX8_span_59 rfl (lv_at hl 0 rfl) ?_
          refine lv_iload_n hx hb dX8_span_60 rfl (lv_at hl 3 rfl) ?_
          obtain ⟨r_61, hq_61, hF⟩ := bn_i hF
          refine cr_V (As := [.int r_33, .int p2]) (rest := []) ⟨hx, hb, hml, hown, hts⟩ (c_X8_next l D y fl a_t a_t_now a_t_tried a_t_kept a_t_saved a_t_line a_t_text a_t_told a_t_way t_undos t_isSaved t_lined t_length t_at t_order t_fault t_reason t_detail t_index t_answer (0 : Int32) t_went t_fell t_now r_33 p2 r_61 hq_61) (cwV 2 hts gX8_span_X8_next rfl rfl rfl (by decide +kernel) ⟨Nat.le_of_ble_eq_true rfl, Nat.le_of_ble_eq_true rfl⟩) hK hP [0, 1] rfl rfl rfl rfl hl.1 rfl (Nat.le_of_ble_eq_true rfl) dX8_span_61 ⟨Nat.le_of_ble_eq_true rfl, Nat.le_of_ble_eq_true rfl⟩ ?_
          refine lv_iload_n hx hb dX8_span_64 rfl (lv_at hl 0 rfl) ?_
          refine lv_isub hx hb dX8_span_65 ?_
          obtain ⟨e0_66, e1_66⟩ := inj2 hF
          rw [← e0_66, ← e1_66] at hQ0
          rw [hQ0]
          exact ret_i hx hb hr hlocks hAe hK hP hD hS [0, 1] rfl rfl dX8_span_66
        · have hF := iff_ hF c_47
          refine lv_aload_n hx hb dX8_span_50 rfl (lv_at hl 1 rfl) ?_
          refine lv_iconst (v := 3) hx hb dX8_span_51 (by decide) ?_
          obtain ⟨r_52b, t_thrown_52b, hq_52b, hF⟩ := bn2_i hF
          refine cm_Vi (As := [.int (3 : Int32)]) (rest := []) (wr := [(a_t_now, .inl (y 0, 77, .inl t_now))]) ⟨hx, hb, hml, hown, hts⟩ (c_X8_raises l D y fl H.size a_t a_t_now a_t_tried a_t_kept a_t_saved a_t_line a_t_text a_t_told a_t_way t_undos t_isSaved t_lined t_length t_at t_order t_fault t_reason t_detail t_index t_answer (0 : Int32) t_went t_fell (3 : Int32) r_52b t_thrown_52b hq_52b) (cwV 1 hts gX8_span_X8_raises rfl rfl rfl (by decide +kernel) ⟨Nat.le_of_ble_eq_true rfl, Nat.le_of_ble_eq_true rfl⟩) hK hP hD hS hA [0] [1] rfl rfl rfl rfl (by decide) rfl rfl rfl hl.1 rfl (Nat.le_of_ble_eq_true rfl) dX8_span_52 ⟨Nat.le_of_ble_eq_true rfl, Nat.le_of_ble_eq_true rfl⟩ (fun H locs hP hD hS => ?_)
          have hP : va_P D vwCl [(a_t_now, .inl (y 0, 77, .inl t_now)), (a_t, .inr (12, [.ref a_t_now, .ref a_t_tried, .ref a_t_kept, .int t_undos, .ref a_t_saved, .int t_isSaved, .ref a_t_line, .int t_lined, .ref a_t_text, .int t_length, .int t_at, .int t_order, .ref a_t_told, .int t_fault, .int t_reason, .int t_detail, .int t_index, .int t_answer, .int t_thrown_52b, .ref a_t_way, .int t_went, .int t_fell]))] H := hP
          have hD : va_D A [(a_t_now, .inl (y 0, 77, .inl t_now)), (a_t, .inr (12, [.ref a_t_now, .ref a_t_tried, .ref a_t_kept, .int t_undos, .ref a_t_saved, .int t_isSaved, .ref a_t_line, .int t_lined, .ref a_t_text, .int t_length, .int t_at, .int t_order, .ref a_t_told, .int t_fault, .int t_reason, .int t_detail, .int t_index, .int t_answer, .int t_thrown_52b, .ref a_t_way, .int t_went, .int t_fell]))] := hD
          refine lv_goto (tgt := 66) hx hb dX8_span_55 (by decide) ?_
          obtain ⟨e0_66, e1_66⟩ := inj2 hF
          rw [← e0_66, ← e1_66] at hQ0
          rw [hQ0]
          exact ret_i hx hb hr hlocks hAe hK hP hD hS [1, 0] rfl rfl dX8_span_66
    · have hF := ift hF c_22
      refine lv_aload_n hx hb dX8_span_25 rfl (lv_at hl 0 rfl) ?_
      refine lv_iconst (v := 2) hx hb dX8_span_26 (by decide) ?_
      obtain ⟨r_27, t_thrown_27, hq_27, hF⟩ := bn2_i hF
      refine cm_Vi (As := [.int (2 : Int32)]) (rest := []) (wr := [(a_t_now, .inl (y 0, 77, .inl t_now))]) ⟨hx, hb, hml, hown, hts⟩ (c_X8_raises l D y fl H.size a_t a_t_now a_t_tried a_t_kept a_t_saved a_t_line a_t_text a_t_told a_t_way t_undos t_isSaved t_lined t_length t_at t_order t_fault t_reason t_detail t_index t_answer (0 : Int32) t_went t_fell (2 : Int32) r_27 t_thrown_27 hq_27) (cwV 1 hts gX8_span_X8_raises rfl rfl rfl (by decide +kernel) ⟨Nat.le_of_ble_eq_true rfl, Nat.le_of_ble_eq_true rfl⟩) hK hP hD hS hA [0] [1] rfl rfl rfl rfl (by decide) rfl rfl rfl hl.1 rfl (Nat.le_of_ble_eq_true rfl) dX8_span_27 ⟨Nat.le_of_ble_eq_true rfl, Nat.le_of_ble_eq_true rfl⟩ (fun H locs hP hD hS => ?_)
      have hP : va_P D vwCl [(a_t_now, .inl (y 0, 77, .inl t_now)), (a_t, .inr (12, [.ref a_t_now, .ref a_t_tried, .ref a_t_kept, .int t_undos, .ref a_t_saved, .int t_isSaved, .ref a_t_line, .int t_lined, .ref a_t_text, .int t_length, .int t_at, .int t_order, .ref a_t_told, .int t_fault, .int t_reason, .int t_detail, .int t_index, .int t_answer, .int t_thrown_27, .ref a_t_way, .int t_went, .int t_fell]))] H := hP
      have hD : va_D A [(a_t_now, .inl (y 0, 77, .inl t_now)), (a_t, .inr (12, [.ref a_t_now, .ref a_t_tried, .ref a_t_kept, .int t_undos, .ref a_t_saved, .int t_isSaved, .ref a_t_line, .int t_lined, .ref a_t_text, .int t_length, .int t_at, .int t_order, .ref a_t_told, .int t_fault, .int t_reason, .int t_detail, .int t_index, .int t_answer, .int t_thrown_27, .ref a_t_way, .int t_went, .int t_fell]))] := hD
      obtain ⟨e0_30, e1_30⟩ := inj2 hF
      rw [← e0_30, ← e1_30] at hQ0
      rw [hQ0]
      exact ret_i hx hb hr hlocks hAe hK hP hD hS [1, 0] rfl rfl dX8_span_30
  · have hF := ift hF c_9
    refine lv_aload_n hx hb dX8_span_12 rfl (lv_at hl 0 rfl) ?_
    refine lv_iconst (v := 1) hx hb dX8_span_13 (by decide) ?_
    obtain ⟨r_14, t_thrown_14, hq_14, hF⟩ := bn2_i hF
    refine cm_Vi (As := [.int (1 : Int32)]) (rest := []) (wr := [(a_t_now, .inl (y 0, 77, .inl t_now))]) ⟨hx, hb, hml, hown, hts⟩ (c_X8_raises l D y fl H.size a_t a_t_now a_t_tried a_t_kept a_t_saved a_t_line a_t_text a_t_told a_t_way t_undos t_isSaved t_lined t_length t_at t_order t_fault t_reason t_detail t_index t_answer (0 : Int32) t_went t_fell (1 : Int32) r_14 t_thrown_14 hq_14) (cwV 1 hts gX8_span_X8_raises rfl rfl rfl (by decide +kernel) ⟨Nat.le_of_ble_eq_true rfl, Nat.le_of_ble_eq_true rfl⟩) hK hP hD hS hA [0] [1] rfl rfl rfl rfl (by decide) rfl rfl rfl hl.1 rfl (Nat.le_of_ble_eq_true rfl) dX8_span_14 ⟨Nat.le_of_ble_eq_true rfl, Nat.le_of_ble_eq_true rfl⟩ (fun H locs hP hD hS => ?_)
    have hP : va_P D vwCl [(a_t_now, .inl (y 0, 77, .inl t_now)), (a_t, .inr (12, [.ref a_t_now, .ref a_t_tried, .ref a_t_kept, .int t_undos, .ref a_t_saved, .int t_isSaved, .ref a_t_line, .int t_lined, .ref a_t_text, .int t_length, .int t_at, .int t_order, .ref a_t_told, .int t_fault, .int t_reason, .int t_detail, .int t_index, .int t_answer, .int t_thrown_14, .ref a_t_way, .int t_went, .int t_fell]))] H := hP
    have hD : va_D A [(a_t_now, .inl (y 0, 77, .inl t_now)), (a_t, .inr (12, [.ref a_t_now, .ref a_t_tried, .ref a_t_kept, .int t_undos, .ref a_t_saved, .int t_isSaved, .ref a_t_line, .int t_lined, .ref a_t_text, .int t_length, .int t_at, .int t_order, .ref a_t_told, .int t_fault, .int t_reason, .int t_detail, .int t_index, .int t_answer, .int t_thrown_14, .ref a_t_way, .int t_went, .int t_fell]))] := hD
    obtain ⟨e0_17, e1_17⟩ := inj2 hF
    rw [← e0_17, ← e1_17] at hQ0
    rw [hQ0]
    exact ret_i hx hb hr hlocks hAe hK hP hD hS [1, 0] rfl rfl dX8_span_17
def F_X8_headSpan (fl : Nat) (t_thrown : Int32) (t_now : Nat → Int32) (p1 : Int32) : Option (Int32 × Int32) := bn (F_X8_isLevel fl p1) fun r_6 => if r_6 = 0 then (bn2 (F_X8_raises fl (0 : Int32) (1 : Int32)) fun r_25 t_thrown_25 => some (r_25, t_thrown_25)) else (bn (F_X8_next fl t_now (-1 : Int32) p1) fun r_15 => some (r_15 + (1 : Int32), (0 : Int32)))
theorem iX8_headSpan_X8 : ∀ w ∈ u_ws RX8 TX8 22, w ∈ wsX8_headSpan := fun w h => List.mem_cons_of_mem _ (List.mem_append_left _ (List.mem_append_right _ h))
set_option maxHeartbeats 4000000 in
set_option maxRecDepth 100000 in
theorem c_X8_headSpan (l : Launch) (D : va_G) (y : Nat → ClassId) (fl : Nat) (sz : Nat) (a_t : Nat) (a_t_now : Nat) (a_t_tried : Nat) (a_t_kept : Nat) (a_t_saved : Nat) (a_t_line : Nat) (a_t_text : Nat) (a_t_told : Nat) (a_t_way : Nat) (t_undos : Int32) (t_isSaved : Int32) (t_lined : Int32) (t_length : Int32) (t_at : Int32) (t_order : Int32) (t_fault : Int32) (t_reason : Int32) (t_detail : Int32) (t_index : Int32) (t_answer : Int32) (t_thrown : Int32) (t_went : Int32) (t_fell : Int32) (t_now : Nat → Int32) (p1 : Int32) (r : Int32) (t_thrown' : Int32) (hF : F_X8_headSpan fl t_thrown t_now p1 = some (r, t_thrown')) : Met l yX8_headSpan wsX8_headSpan (rmq 2 44) (wrP D y [(a_t, .inr (12, [.ref a_t_now, .ref a_t_tried, .ref a_t_kept, .int t_undos, .ref a_t_saved, .int t_isSaved, .ref a_t_line, .int t_lined, .ref a_t_text, .int t_length, .int t_at, .int t_order, .ref a_t_told, .int t_fault, .int t_reason, .int t_detail, .int t_index, .int t_answer, .int t_thrown, .ref a_t_way, .int t_went, .int t_fell])), (a_t_now, .inl (y 0, 77, .inl t_now))] sz [.ref a_t, .int p1]) (wQi D y r [(a_t, .inr (12, [.ref a_t_now, .ref a_t_tried, .ref a_t_kept, .int t_undos, .ref a_t_saved, .int t_isSaved, .ref a_t_line, .int t_lined, .ref a_t_text, .int t_length, .int t_at, .int t_order, .ref a_t_told, .int t_fault, .int t_reason, .int t_detail, .int t_index, .int t_answer, .int t_thrown', .ref a_t_way, .int t_went, .int t_fell])), (a_t_now, .inl (y 0, 77, .inl t_now))] [(a_t, .inr (12, [.ref a_t_now, .ref a_t_tried, .ref a_t_kept, .int t_undos, .ref a_t_saved, .int t_isSaved, .ref a_t_line, .int t_lined, .ref a_t_text, .int t_length, .int t_at, .int t_order, .ref a_t_told, .int t_fault, .int t_reason, .int t_detail, .int t_index, .int t_answer, .int t_thrown, .ref a_t_way, .int t_went, .int t_fell])), (a_t_now, .inl (y 0, 77, .inl t_now))] sz) 0 0 (va_A [(a_t, .inr (12, [.ref a_t_now, .ref a_t_tried, .ref a_t_kept, .int t_undos, .ref a_t_saved, .int t_isSaved, .ref a_t_line, .int t_lined, .ref a_t_text, .int t_length, .int t_at, .int t_order, .ref a_t_told, .int t_fault, .int t_reason, .int t_detail, .int t_index, .int t_answer, .int t_thrown, .ref a_t_way, .int t_went, .int t_fell])), (a_t_now, .inl (y 0, 77, .inl t_now))] sz) := by
  refine Met.ofW (cc := cX8_headSpan) (maxL := 2) (ret := (some .int)) (by decide) rfl ?_
  intro p e s m args below meth c s₁ B hml hv
  obtain ⟨hav, hsz, hP, hK, hD0⟩ := hv
  have hx := B.exec
  have hb := B.bytes
  have hr := B.returns
  have hts := atoms_spec (ws := wsX8_headSpan) B.pre
  have hown : s.vm.findClass RX8 = some m.cls := findClass_of_methodNamed B.named
  have hlocks := B.notSynchronized
  subst hsz
  have hD := hD0.self (sz := s.heap.size)
  obtain ⟨A, hAe⟩ : ∃ A : Nat → Prop, va_A [(a_t, .inr (12, [.ref a_t_now, .ref a_t_tried, .ref a_t_kept, .int t_undos, .ref a_t_saved, .int t_isSaved, .ref a_t_line, .int t_lined, .ref a_t_text, .int t_length, .int t_at, .int t_order, .ref a_t_told, .int t_fault, .int t_reason, .int t_detail, .int t_index, .int t_answer, .int t_thrown, .ref a_t_way, .int t_went, .int t_fell])), (a_t_now, .inl (y 0, 77, .inl t_now))] s.heap.size = A := ⟨_, rfl⟩
  rw [hAe] at hD
  have hA : ∀ q, s.heap.size ≤ q → A q := fun q h => by rw [← hAe]; exact Or.inr h
  have hS : va_S A s.heap s.heap [] := va_S.rf
  refine W_q (R1 := (rmq 2 44)) rfl (fun Q0 hQ0 => ?_)
  unfold F_X8_headSpan at hF
  refine W_entry hav (Nat.le_of_ble_eq_true rfl) (fun ls hl => ?_)
  have hl : lv_has ls 2 [(0, .ref a_t), (1, .int p1)] := hl
  refine lv_aload_n hx hb dX8_headSpan_0 rfl (lv_at hl 0 rfl) ?_
  refine lv_iconst (v := 0) hx hb dX8_headSpan_1 (by decide) ?_
  refine va_put (D := D) (ci := 12) (v := .int (0 : Int32)) (ty := .int) (C := RX8) (T := TX8) (N := 22) hx hb hts iX8_headSpan_X8 tyX8 tyX8_ok nmX8 hown hK hP hD hS 0 rfl rfl 18 (by decide) (hts (.fieldLink RX8 39 "SkipArchiveModel" "thrown" "I") (List.mem_of_getElem? (i := 1) rfl)) (fun _ h9 => h9) rfl (by decide +kernel) rfl rfl (Nat.le_of_ble_eq_true rfl) dX8_headSpan_2 (fun H locs hP hD hS => ?_)
  have hP : va_P D vwCl [(a_t, .inr (12, [.ref a_t_now, .ref a_t_tried, .ref a_t_kept, .int t_undos, .ref a_t_saved, .int t_isSaved, .ref a_t_line, .int t_lined, .ref a_t_text, .int t_length, .int t_at, .int t_order, .ref a_t_told, .int t_fault, .int t_reason, .int t_detail, .int t_index, .int t_answer, .int (0 : Int32), .ref a_t_way, .int t_went, .int t_fell])), (a_t_now, .inl (y 0, 77, .inl t_now))] H := hP
  have hD : va_D A [(a_t, .inr (12, [.ref a_t_now, .ref a_t_tried, .ref a_t_kept, .int t_undos, .ref a_t_saved, .int t_isSaved, .ref a_t_line, .int t_lined, .ref a_t_text, .int t_length, .int t_at, .int t_order, .ref a_t_told, .int t_fault, .int t_reason, .int t_detail, .int t_index, .int t_answer, .int (0 : Int32), .ref a_t_way, .int t_went, .int t_fell])), (a_t_now, .inl (y 0, 77, .inl t_now))] := hD
  refine lv_iload_n hx hb dX8_headSpan_5 rfl (lv_at hl 1 rfl) ?_
  obtain ⟨r_6, hq_6, hF⟩ := bn_i hF
  refine cr_S (As := [.int p1]) (rest := []) ⟨hx, hb, hml, hown, hts⟩ (c_X8_isLevel l D y fl p1 r_6 hq_6) (va_cwS 1 hts gX8_headSpan_X8_isLevel rfl rfl rfl (by decide +kernel) ⟨Nat.le_of_ble_eq_true rfl, Nat.le_of_ble_eq_true rfl⟩) hK hP [] rfl rfl hl.1 rfl (Nat.le_of_ble_eq_true rfl) dX8_headSpan_6 ⟨Nat.le_of_ble_eq_true rfl, Nat.le_of_ble_eq_true rfl⟩ ?_
  refine lv_if_eq (tgt := 23) hx hb dX8_headSpan_9 (by decide) (fun c_9 => ?_) (fun c_9 => ?_)
  · have hF := ift hF c_9
    refine lv_aload_n hx hb dX8_headSpan_23 rfl (lv_at hl 0 rfl) ?_
    refine lv_iconst (v := 1) hx hb dX8_headSpan_24 (by decide) ?_
    obtain ⟨r_25, t_thrown_25, hq_25, hF⟩ := bn2_i hF
    refine cm_Vi (As := [.int (1 : Int32)]) (rest := []) (wr := [(a_t_now, .inl (y 0, 77, .inl t_now))]) ⟨hx, hb, hml, hown, hts⟩ (c_X8_raises l D y fl H.size a_t a_t_now a_t_tried a_t_kept a_t_saved a_t_line a_t_text a_t_told a_t_way t_undos t_isSaved t_lined t_length t_at t_order t_fault t_reason t_detail t_index t_answer (0 : Int32) t_went t_fell (1 : Int32) r_25 t_thrown_25 hq_25) (cwV 1 hts gX8_headSpan_X8_raises rfl rfl rfl (by decide +kernel) ⟨Nat.le_of_ble_eq_true rfl, Nat.le_of_ble_eq_true rfl⟩) hK hP hD hS hA [0] [1] rfl rfl rfl rfl (by decide) rfl rfl rfl hl.1 rfl (Nat.le_of_ble_eq_true rfl) dX8_headSpan_25 ⟨Nat.le_of_ble_eq_true rfl, Nat.le_of_ble_eq_true rfl⟩ (fun H locs hP hD hS => ?_)
    have hP : va_P D vwCl [(a_t_now, .inl (y 0, 77, .inl t_now)), (a_t, .inr (12, [.ref a_t_now, .ref a_t_tried, .ref a_t_kept, .int t_undos, .ref a_t_saved, .int t_isSaved, .ref a_t_line, .int t_lined, .ref a_t_text, .int t_length, .int t_at, .int t_order, .ref a_t_told, .int t_fault, .int t_reason, .int t_detail, .int t_index, .int t_answer, .int t_thrown_25, .ref a_t_way, .int t_went, .int t_fell]))] H := hP
    have hD : va_D A [(a_t_now, .inl (y 0, 77, .inl t_now)), (a_t, .inr (12, [.ref a_t_now, .ref a_t_tried, .ref a_t_kept, .int t_undos, .ref a_t_saved, .int t_isSaved, .ref a_t_line, .int t_lined, .ref a_t_text, .int t_length, .int t_at, .int t_order, .ref a_t_told, .int t_fault, .int t_reason, .int t_detail, .int t_index, .int t_answer, .int t_thrown_25, .ref a_t_way, .int t_went, .int t_fell]))] := hD
    obtain ⟨e0_28, e1_28⟩ := inj2 hF
    rw [← e0_28, ← e1_28] at hQ0
    rw [hQ0]
    exact ret_i hx hb hr hlocks hAe hK hP hD hS [1, 0] rfl rfl dX8_headSpan_28
  · have hF := iff_ hF c_9
    refine lv_aload_n hx hb dX8_headSpan_12 rfl (lv_at hl 0 rfl) ?_
    refine lv_iconst (v := -1) hx hb dX8_headSpan_13 (by decide) ?_
    refine lv_iload_n hx hb dX8_headSpan_14 rfl (lv_at hl 1 rfl) ?_
    obtain ⟨r_15, hq_15, hF⟩ := bn_i hF
    refine cr_V (As := [.int (-1 : Int32), .int p1]) (rest := []) ⟨hx, hb, hml, hown, hts⟩ (c_X8_next l D y fl a_t a_t_now a_t_tried a_t_kept a_t_saved a_t_line a_t_text a_t_told a_t_way t_undos t_isSaved t_lined t_length t_at t_order t_fault t_reason t_detail t_index t_answer (0 : Int32) t_went t_fell t_now (-1 : Int32) p1 r_15 hq_15) (cwV 2 hts gX8_headSpan_X8_next rfl rfl rfl (by decide +kernel) ⟨Nat.le_of_ble_eq_true rfl, Nat.le_of_ble_eq_true rfl⟩) hK hP [0, 1] rfl rfl rfl rfl hl.1 rfl (Nat.le_of_ble_eq_true rfl) dX8_headSpan_15 ⟨Nat.le_of_ble_eq_true rfl, Nat.le_of_ble_eq_true rfl⟩ ?_
    refine lv_iconst (v := 1) hx hb dX8_headSpan_18 (by decide) ?_
    refine lv_iadd hx hb dX8_headSpan_19 ?_
    refine lv_goto (tgt := 28) hx hb dX8_headSpan_20 (by decide) ?_
    obtain ⟨e0_28, e1_28⟩ := inj2 hF
    rw [← e0_28, ← e1_28] at hQ0
    rw [hQ0]
    exact ret_i hx hb hr hlocks hAe hK hP hD hS [0, 1] rfl rfl dX8_headSpan_28
def F_X8_isForgotten (fl : Nat) (t_thrown : Int32) (t_now : Nat → Int32) (p1 : Int32) : Option (Int32 × Int32) := bn (F_X8_isLevel fl p1) fun r_2 => if r_2 = 0 then (if (1 : Int32) = 0 then (bn (F_X8_isOut fl t_now p1) fun r_25 => if r_25 = 0 then (some ((0 : Int32), (1 : Int32))) else (some ((1 : Int32), (1 : Int32)))) else (some ((0 : Int32), (1 : Int32)))) else (if (0 : Int32) = 0 then (bn (F_X8_isOut fl t_now p1) fun r_25b => if r_25b = 0 then (some ((0 : Int32), (0 : Int32))) else (some ((1 : Int32), (0 : Int32)))) else (some ((0 : Int32), (0 : Int32))))
theorem iX8_isForgotten_X8 : ∀ w ∈ u_ws RX8 TX8 22, w ∈ wsX8_isForgotten := fun w h => List.mem_cons_of_mem _ (List.mem_append_left _ (List.mem_append_right _ h))
set_option maxHeartbeats 4000000 in
set_option maxRecDepth 100000 in
theorem c_X8_isForgotten (l : Launch) (D : va_G) (y : Nat → ClassId) (fl : Nat) (sz : Nat) (a_t : Nat) (a_t_now : Nat) (a_t_tried : Nat) (a_t_kept : Nat) (a_t_saved : Nat) (a_t_line : Nat) (a_t_text : Nat) (a_t_told : Nat) (a_t_way : Nat) (t_undos : Int32) (t_isSaved : Int32) (t_lined : Int32) (t_length : Int32) (t_at : Int32) (t_order : Int32) (t_fault : Int32) (t_reason : Int32) (t_detail : Int32) (t_index : Int32) (t_answer : Int32) (t_thrown : Int32) (t_went : Int32) (t_fell : Int32) (t_now : Nat → Int32) (p1 : Int32) (r : Int32) (t_thrown' : Int32) (hF : F_X8_isForgotten fl t_thrown t_now p1 = some (r, t_thrown')) : Met l yX8_isForgotten wsX8_isForgotten (rmq 2 42) (wrP D y [(a_t, .inr (12, [.ref a_t_now, .ref a_t_tried, .ref a_t_kept, .int t_undos, .ref a_t_saved, .int t_isSaved, .ref a_t_line, .int t_lined, .ref a_t_text, .int t_length, .int t_at, .int t_order, .ref a_t_told, .int t_fault, .int t_reason, .int t_detail, .int t_index, .int t_answer, .int t_thrown, .ref a_t_way, .int t_went, .int t_fell])), (a_t_now, .inl (y 0, 77, .inl t_now))] sz [.ref a_t, .int p1]) (wQi D y r [(a_t, .inr (12, [.ref a_t_now, .ref a_t_tried, .ref a_t_kept, .int t_undos, .ref a_t_saved, .int t_isSaved, .ref a_t_line, .int t_lined, .ref a_t_text, .int t_length, .int t_at, .int t_order, .ref a_t_told, .int t_fault, .int t_reason, .int t_detail, .int t_index, .int t_answer, .int t_thrown', .ref a_t_way, .int t_went, .int t_fell])), (a_t_now, .inl (y 0, 77, .inl t_now))] [(a_t, .inr (12, [.ref a_t_now, .ref a_t_tried, .ref a_t_kept, .int t_undos, .ref a_t_saved, .int t_isSaved, .ref a_t_line, .int t_lined, .ref a_t_text, .int t_length, .int t_at, .int t_order, .ref a_t_told, .int t_fault, .int t_reason, .int t_detail, .int t_index, .int t_answer, .int t_thrown, .ref a_t_way, .int t_went, .int t_fell])), (a_t_now, .inl (y 0, 77, .inl t_now))] sz) 0 0 (va_A [(a_t, .inr (12, [.ref a_t_now, .ref a_t_tried, .ref a_t_kept, .int t_undos, .ref a_t_saved, .int t_isSaved, .ref a_t_line, .int t_lined, .ref a_t_text, .int t_length, .int t_at, .int t_order, .ref a_t_told, .int t_fault, .int t_reason, .int t_detail, .int t_index, .int t_answer, .int t_thrown, .ref a_t_way, .int t_went, .int t_fell])), (a_t_now, .inl (y 0, 77, .inl t_now))] sz) := by
  refine Met.ofW (cc := cX8_isForgotten) (maxL := 2) (ret := (some .boolean)) (by decide) rfl ?_
  intro p e s m args below meth c s₁ B hml hv
  obtain ⟨hav, hsz, hP, hK, hD0⟩ := hv
  have hx := B.exec
  have hb := B.bytes
  have hr := B.returns
  have hts := atoms_spec (ws := wsX8_isForgotten) B.pre
  have hown : s.vm.findClass RX8 = some m.cls := findClass_of_methodNamed B.named
  have hlocks := B.notSynchronized
  subst hsz
  have hD := hD0.self (sz := s.heap.size)
  obtain ⟨A, hAe⟩ : ∃ A : Nat → Prop, va_A [(a_t, .inr (12, [.ref a_t_now, .ref a_t_tried, .ref a_t_kept, .int t_undos, .ref a_t_saved, .int t_isSaved, .ref a_t_line, .int t_lined, .ref a_t_text, .int t_length, .int t_at, .int t_order, .ref a_t_told, .int t_fault, .int t_reason, .int t_detail, .int t_index, .int t_answer, .int t_thrown, .ref a_t_way, .int t_went, .int t_fell])), (a_t_now, .inl (y 0, 77, .inl t_now))] s.heap.size = A := ⟨_, rfl⟩
  rw [hAe] at hD
  have hA : ∀ q, s.heap.size ≤ q → A q := fun q h => by rw [← hAe]; exact Or.inr h
  have hS : va_S A s.heap s.heap [] := va_S.rf
  refine W_q (R1 := (rmq 2 42)) rfl (fun Q0 hQ0 => ?_)
  unfold F_X8_isForgotten at hF
  refine W_entry hav (Nat.le_of_ble_eq_true rfl) (fun ls hl => ?_)
  have hl : lv_has ls 2 [(0, .ref a_t), (1, .int p1)] := hl
  refine lv_aload_n hx hb dX8_isForgotten_0 rfl (lv_at hl 0 rfl) ?_
  refine lv_iload_n hx hb dX8_isForgotten_1 rfl (lv_at hl 1 rfl) ?_
  obtain ⟨r_2, hq_2, hF⟩ := bn_i hF
  refine cr_S (As := [.int p1]) (rest := [.ref a_t]) ⟨hx, hb, hml, hown, hts⟩ (c_X8_isLevel l D y fl p1 r_2 hq_2) (va_cwS 1 hts gX8_isForgotten_X8_isLevel rfl rfl rfl (by decide +kernel) ⟨Nat.le_of_ble_eq_true rfl, Nat.le_of_ble_eq_true rfl⟩) hK hP [] rfl rfl hl.1 rfl (Nat.le_of_ble_eq_true rfl) dX8_isForgotten_2 ⟨Nat.le_of_ble_eq_true rfl, Nat.le_of_ble_eq_true rfl⟩ ?_
  refine lv_if_eq (tgt := 12) hx hb dX8_isForgotten_5 (by decide) (fun c_5 => ?_) (fun c_5 => ?_)
  · have hF := ift hF c_5
    refine lv_iconst (v := 1) hx hb dX8_isForgotten_12 (by decide) ?_
    refine va_put (D := D) (ci := 12) (v := .int (1 : Int32)) (ty := .int) (C := RX8) (T := TX8) (N := 22) hx hb hts iX8_isForgotten_X8 tyX8 tyX8_ok nmX8 hown hK hP hD hS 0 rfl rfl 18 (by decide) (hts (.fieldLink RX8 39 "SkipArchiveModel" "thrown" "I") (List.mem_of_getElem? (i := 1) rfl)) (fun _ h9 => h9) rfl (by decide +kernel) rfl rfl (Nat.le_of_ble_eq_true rfl) dX8_isForgotten_13 (fun H locs hP hD hS => ?_)
    have hP : va_P D vwCl [(a_t, .inr (12, [.ref a_t_now, .ref a_t_tried, .ref a_t_kept, .int t_undos, .ref a_t_saved, .int t_isSaved, .ref a_t_line, .int t_lined, .ref a_t_text, .int t_length, .int t_at, .int t_order, .ref a_t_told, .int t_fault, .int t_reason, .int t_detail, .int t_index, .int t_answer, .int (1 : Int32), .ref a_t_way, .int t_went, .int t_fell])), (a_t_now, .inl (y 0, 77, .inl t_now))] H := hP
    have hD : va_D A [(a_t, .inr (12, [.ref a_t_now, .ref a_t_tried, .ref a_t_kept, .int t_undos, .ref a_t_saved, .int t_isSaved, .ref a_t_line, .int t_lined, .ref a_t_text, .int t_length, .int t_at, .int t_order, .ref a_t_told, .int t_fault, .int t_reason, .int t_detail, .int t_index, .int t_answer, .int (1 : Int32), .ref a_t_way, .int t_went, .int t_fell])), (a_t_now, .inl (y 0, 77, .inl t_now))] := hD
    refine lv_aload_n hx hb dX8_isForgotten_16 rfl (lv_at hl 0 rfl) ?_
    refine va_get (D := D) (ci := 12) (v := .int (1 : Int32)) (C := RX8) (T := TX8) (N := 22) hx hb hts iX8_isForgotten_X8 hown hK hP 0 rfl rfl 18 (by decide) (hts (.fieldLink RX8 39 "SkipArchiveModel" "thrown" "I") (List.mem_of_getElem? (i := 1) rfl)) (fun _ h9 => h9) rfl dX8_isForgotten_17 ?_
    refine lv_if_ne (tgt := 35) hx hb dX8_isForgotten_20 (by decide) (fun c_20 => ?_) (fun c_20 => ?_)
    · have hF := iff_ hF c_20
      refine lv_iconst (v := 0) hx hb dX8_isForgotten_35 (by decide) ?_
      obtain ⟨e0_36, e1_36⟩ := inj2 hF
      rw [← e0_36, ← e1_36] at hQ0
      rw [hQ0]
      exact ret_z hx hb hr (by decide +kernel) hlocks hAe hK hP hD hS [0, 1] rfl rfl dX8_isForgotten_36
    · have hF := ift hF c_20
      refine lv_aload_n hx hb dX8_isForgotten_23 rfl (lv_at hl 0 rfl) ?_
      refine lv_iload_n hx hb dX8_isForgotten_24 rfl (lv_at hl 1 rfl) ?_
      obtain ⟨r_25, hq_25, hF⟩ := bn_i hF
      refine cr_V (As := [.int p1]) (rest := []) ⟨hx, hb, hml, hown, hts⟩ (c_X8_isOut l D y fl a_t a_t_now a_t_tried a_t_kept a_t_saved a_t_line a_t_text a_t_told a_t_way t_undos t_isSaved t_lined t_length t_at t_order t_fault t_reason t_detail t_index t_answer (1 : Int32) t_went t_fell t_now p1 r_25 hq_25) (cwV 1 hts gX8_isForgotten_X8_isOut rfl rfl rfl (by decide +kernel) ⟨Nat.le_of_ble_eq_true rfl, Nat.le_of_ble_eq_true rfl⟩) hK hP [0, 1] rfl rfl rfl rfl hl.1 rfl (Nat.le_of_ble_eq_true rfl) dX8_isForgotten_25 ⟨Nat.le_of_ble_eq_true rfl, Nat.le_of_ble_eq_true rfl⟩ ?_
      refine lv_if_eq (tgt := 35) hx hb dX8_isForgotten_28 (by decide) (fun c_28 => ?_) (fun c_28 => ?_)
      · have hF := ift hF c_28
        refine lv_iconst (v := 0) hx hb dX8_isForgotten_35 (by decide) ?_
        obtain ⟨e0_36, e1_36⟩ := inj2 hF
        rw [← e0_36, ← e1_36] at hQ0
        rw [hQ0]
        exact ret_z hx hb hr (by decide +kernel) hlocks hAe hK hP hD hS [0, 1] rfl rfl dX8_isForgotten_36
      · have hF := iff_ hF c_28
        refine lv_iconst (v := 1) hx hb dX8_isForgotten_31 (by decide) ?_
        refine lv_goto (tgt := 36) hx hb dX8_isForgotten_32 (by decide) ?_
        obtain ⟨e0_36, e1_36⟩ := inj2 hF
        rw [← e0_36, ← e1_36] at hQ0
        rw [hQ0]
        exact ret_z hx hb hr (by decide +kernel) hlocks hAe hK hP hD hS [0, 1] rfl rfl dX8_isForgotten_36
  · have hF := iff_ hF c_5
    refine lv_iconst (v := 0) hx hb dX8_isForgotten_8 (by decide) ?_
    refine lv_goto (tgt := 13) hx hb dX8_isForgotten_9 (by decide) ?_
    refine va_put (D := D) (ci := 12) (v := .int (0 : Int32)) (ty := .int) (C := RX8) (T := TX8) (N := 22) hx hb hts iX8_isForgotten_X8 tyX8 tyX8_ok nmX8 hown hK hP hD hS 0 rfl rfl 18 (by decide) (hts (.fieldLink RX8 39 "SkipArchiveModel" "thrown" "I") (List.mem_of_getElem? (i := 1) rfl)) (fun _ h9 => h9) rfl (by decide +kernel) rfl rfl (Nat.le_of_ble_eq_true rfl) dX8_isForgotten_13 (fun H locs hP hD hS => ?_)
    have hP : va_P D vwCl [(a_t, .inr (12, [.ref a_t_now, .ref a_t_tried, .ref a_t_kept, .int t_undos, .ref a_t_saved, .int t_isSaved, .ref a_t_line, .int t_lined, .ref a_t_text, .int t_length, .int t_at, .int t_order, .ref a_t_told, .int t_fault, .int t_reason, .int t_detail, .int t_index, .int t_answer, .int (0 : Int32), .ref a_t_way, .int t_went, .int t_fell])), (a_t_now, .inl (y 0, 77, .inl t_now))] H := hP
    have hD : va_D A [(a_t, .inr (12, [.ref a_t_now, .ref a_t_tried, .ref a_t_kept, .int t_undos, .ref a_t_saved, .int t_isSaved, .ref a_t_line, .int t_lined, .ref a_t_text, .int t_length, .int t_at, .int t_order, .ref a_t_told, .int t_fault, .int t_reason, .int t_detail, .int t_index, .int t_answer, .int (0 : Int32), .ref a_t_way, .int t_went, .int t_fell])), (a_t_now, .inl (y 0, 77, .inl t_now))] := hD
    refine lv_aload_n hx hb dX8_isForgotten_16 rfl (lv_at hl 0 rfl) ?_
    refine va_get (D := D) (ci := 12) (v := .int (0 : Int32)) (C := RX8) (T := TX8) (N := 22) hx hb hts iX8_isForgotten_X8 hown hK hP 0 rfl rfl 18 (by decide) (hts (.fieldLink RX8 39 "SkipArchiveModel" "thrown" "I") (List.mem_of_getElem? (i := 1) rfl)) (fun _ h9 => h9) rfl dX8_isForgotten_17 ?_
    refine lv_if_ne (tgt := 35) hx hb dX8_isForgotten_20 (by decide) (fun c_20b => ?_) (fun c_20b => ?_)
    · have hF := iff_ hF c_20b
      refine lv_iconst (v := 0) hx hb dX8_isForgotten_35 (by decide) ?_
      obtain ⟨e0_36, e1_36⟩ := inj2 hF
      rw [← e0_36, ← e1_36] at hQ0
      rw [hQ0]
      exact ret_z hx hb hr (by decide +kernel) hlocks hAe hK hP hD hS [0, 1] rfl rfl dX8_isForgotten_36
    · have hF := ift hF c_20b
      refine lv_aload_n hx hb dX8_isForgotten_23 rfl (lv_at hl 0 rfl) ?_
      refine lv_iload_n hx hb dX8_isForgotten_24 rfl (lv_at hl 1 rfl) ?_
      obtain ⟨r_25b, hq_25b, hF⟩ := bn_i hF
      refine cr_V (As := [.int p1]) (rest := []) ⟨hx, hb, hml, hown, hts⟩ (c_X8_isOut l D y fl a_t a_t_now a_t_tried a_t_kept a_t_saved a_t_line a_t_text a_t_told a_t_way t_undos t_isSaved t_lined t_length t_at t_order t_fault t_reason t_detail t_index t_answer (0 : Int32) t_went t_fell t_now p1 r_25b hq_25b) (cwV 1 hts gX8_isForgotten_X8_isOut rfl rfl rfl (by decide +kernel) ⟨Nat.le_of_ble_eq_true rfl, Nat.le_of_ble_eq_true rfl⟩) hK hP [0, 1] rfl rfl rfl rfl hl.1 rfl (Nat.le_of_ble_eq_true rfl) dX8_isForgotten_25 ⟨Nat.le_of_ble_eq_true rfl, Nat.le_of_ble_eq_true rfl⟩ ?_
      refine lv_if_eq (tgt := 35) hx hb dX8_isForgotten_28 (by decide) (fun c_28b => ?_) (fun c_28b => ?_)
      · have hF := ift hF c_28b
        refine lv_iconst (v := 0) hx hb dX8_isForgotten_35 (by decide) ?_
        obtain ⟨e0_36, e1_36⟩ := inj2 hF
        rw [← e0_36, ← e1_36] at hQ0
        rw [hQ0]
        exact ret_z hx hb hr (by decide +kernel) hlocks hAe hK hP hD hS [0, 1] rfl rfl dX8_isForgotten_36
      · have hF := iff_ hF c_28b
        refine lv_iconst (v := 1) hx hb dX8_isForgotten_31 (by decide) ?_
        refine lv_goto (tgt := 36) hx hb dX8_isForgotten_32 (by decide) ?_
        obtain ⟨e0_36, e1_36⟩ := inj2 hF
        rw [← e0_36, ← e1_36] at hQ0
        rw [hQ0]
        exact ret_z hx hb hr (by decide +kernel) hlocks hAe hK hP hD hS [0, 1] rfl rfl dX8_isForgotten_36
def F_X8_longestSearch_24 (fl : Nat) (t_now : Nat → Int32) : Nat → Int32 → Int32 → Int32 → (Nat → Int32) → Int32 → Int32 → Option (Int32 × Int32 × Int32 × Int32 × (Nat → Int32))
  | 0, _, _, _, _, _, _ => none
  | n + 1, t_thrown_w, t_went_w, t_fell_w, t_way_w, x1, x2 => gi (0 : Int32) 77 (if (t_now (0 : Int32).toNatClampNeg) ≤ x2 then (bn (F_X8_key fl t_now x1) fun r_65 => some (r_65, t_thrown_w, t_went_w, t_fell_w, t_way_w)) else (bn (F_X8_key fl t_now x2) fun r_37 => bn4 (F_X8_searches fl t_went_w t_fell_w t_now t_way_w r_37) fun r_40 t_went_40 t_fell_40 t_way_40 => bn (F_X8_key fl t_now x1) fun r_46 => bn4 (F_X8_searches fl t_went_40 t_fell_40 t_now t_way_40 r_46) fun r_49 t_went_49 t_fell_49 t_way_49 => if r_40 ≤ r_49 then (F_X8_longestSearch_24 fl t_now n t_thrown_w t_went_49 t_fell_49 t_way_49 x1 (x2 + (1 : Int32))) else (F_X8_longestSearch_24 fl t_now n t_thrown_w t_went_49 t_fell_49 t_way_49 x2 (x2 + (1 : Int32)))))
def F_X8_longestSearch (fl : Nat) (t_thrown : Int32) (t_went : Int32) (t_fell : Int32) (t_now : Nat → Int32) (t_way : Nat → Int32) : Option (Int32 × Int32 × Int32 × Int32 × (Nat → Int32)) := gi (0 : Int32) 77 (if (t_now (0 : Int32).toNatClampNeg) = 0 then (bn2 (F_X8_raises fl (0 : Int32) (1 : Int32)) fun r_16 t_thrown_16 => some (r_16, t_thrown_16, t_went, t_fell, t_way)) else (F_X8_longestSearch_24 fl t_now fl (0 : Int32) t_went t_fell t_way (0 : Int32) (1 : Int32)))
theorem iX8_longestSearch_X8 : ∀ w ∈ u_ws RX8 TX8 22, w ∈ wsX8_longestSearch := fun w h => List.mem_cons_of_mem _ (List.mem_append_left _ (List.mem_append_right _ h))
set_option maxHeartbeats 4000000 in
set_option maxRecDepth 100000 in
theorem c_X8_longestSearch (l : Launch) (D : va_G) (y : Nat → ClassId) (fl : Nat) (sz : Nat) (a_t : Nat) (a_t_now : Nat) (a_t_tried : Nat) (a_t_kept : Nat) (a_t_saved : Nat) (a_t_line : Nat) (a_t_text : Nat) (a_t_told : Nat) (a_t_way : Nat) (t_undos : Int32) (t_isSaved : Int32) (t_lined : Int32) (t_length : Int32) (t_at : Int32) (t_order : Int32) (t_fault : Int32) (t_reason : Int32) (t_detail : Int32) (t_index : Int32) (t_answer : Int32) (t_thrown : Int32) (t_went : Int32) (t_fell : Int32) (t_now : Nat → Int32) (t_way : Nat → Int32) (r : Int32) (t_thrown' : Int32) (t_went' : Int32) (t_fell' : Int32) (t_way' : Nat → Int32) (hF : F_X8_longestSearch fl t_thrown t_went t_fell t_now t_way = some (r, t_thrown', t_went', t_fell', t_way')) : Met l yX8_longestSearch wsX8_longestSearch (rmq 4 89) (wrP D y [(a_t, .inr (12, [.ref a_t_now, .ref a_t_tried, .ref a_t_kept, .int t_undos, .ref a_t_saved, .int t_isSaved, .ref a_t_line, .int t_lined, .ref a_t_text, .int t_length, .int t_at, .int t_order, .ref a_t_told, .int t_fault, .int t_reason, .int t_detail, .int t_index, .int t_answer, .int t_thrown, .ref a_t_way, .int t_went, .int t_fell])), (a_t_now, .inl (y 0, 77, .inl t_now)), (a_t_way, .inl (y 0, 24, .inl t_way))] sz [.ref a_t]) (wQi D y r [(a_t, .inr (12, [.ref a_t_now, .ref a_t_tried, .ref a_t_kept, .int t_undos, .ref a_t_saved, .int t_isSaved, .ref a_t_line, .int t_lined, .ref a_t_text, .int t_length, .int t_at, .int t_order, .ref a_t_told, .int t_fault, .int t_reason, .int t_detail, .int t_index, .int t_answer, .int t_thrown', .ref a_t_way, .int t_went', .int t_fell'])), (a_t_now, .inl (y 0, 77, .inl t_now)), (a_t_way, .inl (y 0, 24, .inl t_way'))] [(a_t, .inr (12, [.ref a_t_now, .ref a_t_tried, .ref a_t_kept, .int t_undos, .ref a_t_saved, .int t_isSaved, .ref a_t_line, .int t_lined, .ref a_t_text, .int t_length, .int t_at, .int t_order, .ref a_t_told, .int t_fault, .int t_reason, .int t_detail, .int t_index, .int t_answer, .int t_thrown, .ref a_t_way, .int t_went, .int t_fell])), (a_t_now, .inl (y 0, 77, .inl t_now)), (a_t_way, .inl (y 0, 24, .inl t_way))] sz) 0 0 (va_A [(a_t, .inr (12, [.ref a_t_now, .ref a_t_tried, .ref a_t_kept, .int t_undos, .ref a_t_saved, .int t_isSaved, .ref a_t_line, .int t_lined, .ref a_t_text, .int t_length, .int t_at, .int t_order, .ref a_t_told, .int t_fault, .int t_reason, .int t_detail, .int t_index, .int t_answer, .int t_thrown, .ref a_t_way, .int t_went, .int t_fell])), (a_t_now, .inl (y 0, 77, .inl t_now)), (a_t_way, .inl (y 0, 24, .inl t_way))] sz) := by
  refine Met.ofW (cc := cX8_longestSearch) (maxL := 3) (ret := (some .int)) (by decide) rfl ?_
  intro p e s m args below meth c s₁ B hml hv
  obtain ⟨hav, hsz, hP, hK, hD0⟩ := hv
  have hx := B.exec
  have hb := B.bytes
  have hr := B.returns
  have hts := atoms_spec (ws := wsX8_longestSearch) B.pre
  have hown : s.vm.findClass RX8 = some m.cls := findClass_of_methodNamed B.named
  have hlocks := B.notSynchronized
  subst hsz
  have hD := hD0.self (sz := s.heap.size)
  obtain ⟨A, hAe⟩ : ∃ A : Nat → Prop, va_A [(a_t, .inr (12, [.ref a_t_now, .ref a_t_tried, .ref a_t_kept, .int t_undos, .ref a_t_saved, .int t_isSaved, .ref a_t_line, .int t_lined, .ref a_t_text, .int t_length, .int t_at, .int t_order, .ref a_t_told, .int t_fault, .int t_reason, .int t_detail, .int t_index, .int t_answer, .int t_thrown, .ref a_t_way, .int t_went, .int t_fell])), (a_t_now, .inl (y 0, 77, .inl t_now)), (a_t_way, .inl (y 0, 24, .inl t_way))] s.heap.size = A := ⟨_, rfl⟩
  rw [hAe] at hD
  have hA : ∀ q, s.heap.size ≤ q → A q := fun q h => by rw [← hAe]; exact Or.inr h
  have hS : va_S A s.heap s.heap [] := va_S.rf
  refine W_q (R1 := (rmq 4 89)) rfl (fun Q0 hQ0 => ?_)
  unfold F_X8_longestSearch at hF
  have k_24 : ∀ (n : Nat) (t_thrown_w : Int32) (t_went_w : Int32) (t_fell_w : Int32) (t_way_w : Nat → Int32) (x1 : Int32) (x2 : Int32), F_X8_longestSearch_24 fl t_now n t_thrown_w t_went_w t_fell_w t_way_w x1 x2 = some (r, t_thrown', t_went', t_fell', t_way') → ∀ (H : Heap) (locs : List Loc), va_P D vwCl [(a_t, .inr (12, [.ref a_t_now, .ref a_t_tried, .ref a_t_kept, .int t_undos, .ref a_t_saved, .int t_isSaved, .ref a_t_line, .int t_lined, .ref a_t_text, .int t_length, .int t_at, .int t_order, .ref a_t_told, .int t_fault, .int t_reason, .int t_detail, .int t_index, .int t_answer, .int t_thrown_w, .ref a_t_way, .int t_went_w, .int t_fell_w])), (a_t_now, .inl (y 0, 77, .inl t_now)), (a_t_way, .inl (y 0, 24, .inl t_way_w))] H → va_D A [(a_t, .inr (12, [.ref a_t_now, .ref a_t_tried, .ref a_t_kept, .int t_undos, .ref a_t_saved, .int t_isSaved, .ref a_t_line, .int t_lined, .ref a_t_text, .int t_length, .int t_at, .int t_order, .ref a_t_told, .int t_fault, .int t_reason, .int t_detail, .int t_index, .int t_answer, .int t_thrown_w, .ref a_t_way, .int t_went_w, .int t_fell_w])), (a_t_now, .inl (y 0, 77, .inl t_now)), (a_t_way, .inl (y 0, 24, .inl t_way_w))] → va_S A s.heap H locs → ∀ (ls : Array Slot), lv_has ls 3 [(0, .ref a_t), (1, .int x1), (2, .int x2)] → W p l e (rmq 4 89) s m args below meth c H locs 0 0 Q0 (F0 m 24 ls []) := by
    intro n
    induction n with
    | zero => intro t_thrown_w t_went_w t_fell_w t_way_w x1 x2 hF; rw [F_X8_longestSearch_24] at hF; cases hF
    | succ n ih =>
      intro t_thrown_w t_went_w t_fell_w t_way_w x1 x2 hF H locs hP hD hS ls hl
      rw [F_X8_longestSearch_24] at hF
      refine lv_iload_n hx hb dX8_longestSearch_24 rfl (lv_at hl 2 rfl) ?_
      refine lv_aload_n hx hb dX8_longestSearch_25 rfl (lv_at hl 0 rfl) ?_
      refine va_get (D := D) (ci := 12) (v := .ref a_t_now) (C := RX8) (T := TX8) (N := 22) hx hb hts iX8_longestSearch_X8 hown hK hP 0 rfl rfl 0 (by decide) (hts (.fieldLink RX8 9 "SkipArchiveModel" "now" "[I") (List.mem_of_getElem? (i := 2) rfl)) (fun _ h9 => h9) rfl dX8_longestSearch_26 ?_
      refine lv_iconst (v := 0) hx hb dX8_longestSearch_29 (by decide) ?_
      obtain ⟨g_30, hF⟩ := gi_i hF
      refine va_iald hx hb hK hP 1 0 rfl rfl g_30 dX8_longestSearch_30 ?_
      refine lv_icmp_ge (tgt := 63) hx hb dX8_longestSearch_31 (by decide) (fun c_31 => ?_) (fun c_31 => ?_)
      · have hF := ift hF c_31
        refine lv_aload_n hx hb dX8_longestSearch_63 rfl (lv_at hl 0 rfl) ?_
        refine lv_iload_n hx hb dX8_longestSearch_64 rfl (lv_at hl 1 rfl) ?_
        obtain ⟨r_65, hq_65, hF⟩ := bn_i hF
        refine cr_V (As := [.int x1]) (rest := []) ⟨hx, hb, hml, hown, hts⟩ (c_X8_key l D y fl a_t a_t_now a_t_tried a_t_kept a_t_saved a_t_line a_t_text a_t_told a_t_way t_undos t_isSaved t_lined t_length t_at t_order t_fault t_reason t_detail t_index t_answer t_thrown_w t_went_w t_fell_w t_now x1 r_65 hq_65) (cwV 1 hts gX8_longestSearch_X8_key rfl rfl rfl (by decide +kernel) ⟨Nat.le_of_ble_eq_true rfl, Nat.le_of_ble_eq_true rfl⟩) hK hP [0, 1] rfl rfl rfl rfl hl.1 rfl (Nat.le_of_ble_eq_true rfl) dX8_longestSearch_65 ⟨Nat.le_of_ble_eq_true rfl, Nat.le_of_ble_eq_true rfl⟩ ?_
        obtain ⟨e0_68, e1_68, e2_68, e3_68, e4_68⟩ := inj5 hF
        rw [← e0_68, ← e1_68, ← e2_68, ← e3_68, ← e4_68] at hQ0
        rw [hQ0]
        exact ret_i hx hb hr hlocks hAe hK hP hD hS [0, 1, 2] rfl rfl dX8_longestSearch_68
      · have hF := iff_ hF c_31
        refine lv_aload_n hx hb dX8_longestSearch_34 rfl (lv_at hl 0 rfl) ?_
        refine lv_aload_n hx hb dX8_longestSearch_35 rfl (lv_at hl 0 rfl) ?_
        refine lv_iload_n hx hb dX8_longestSearch_36 rfl (lv_at hl 2 rfl) ?_
        obtain ⟨r_37, hq_37, hF⟩ := bn_i hF
        refine cr_V (As := [.int x2]) (rest := [.ref a_t]) ⟨hx, hb, hml, hown, hts⟩ (c_X8_key l D y fl a_t a_t_now a_t_tried a_t_kept a_t_saved a_t_line a_t_text a_t_told a_t_way t_undos t_isSaved t_lined t_length t_at t_order t_fault t_reason t_detail t_index t_answer t_thrown_w t_went_w t_fell_w t_now x2 r_37 hq_37) (cwV 1 hts gX8_longestSearch_X8_key rfl rfl rfl (by decide +kernel) ⟨Nat.le_of_ble_eq_true rfl, Nat.le_of_ble_eq_true rfl⟩) hK hP [0, 1] rfl rfl rfl rfl hl.1 rfl (Nat.le_of_ble_eq_true rfl) dX8_longestSearch_37 ⟨Nat.le_of_ble_eq_true rfl, Nat.le_of_ble_eq_true rfl⟩ ?_
        obtain ⟨r_40, t_went_40, t_fell_40, t_way_40, hq_40, hF⟩ := bn4_i hF
        refine cm_Vi (As := [.int r_37]) (rest := []) (wr := []) ⟨hx, hb, hml, hown, hts⟩ (c_X8_searches l D y fl H.size a_t a_t_now a_t_tried a_t_kept a_t_saved a_t_line a_t_text a_t_told a_t_way t_undos t_isSaved t_lined t_length t_at t_order t_fault t_reason t_detail t_index t_answer t_thrown_w t_went_w t_fell_w t_now t_way_w r_37 r_40 t_went_40 t_fell_40 t_way_40 hq_40) (cwV 1 hts gX8_longestSearch_X8_searches rfl rfl rfl (by decide +kernel) ⟨Nat.le_of_ble_eq_true rfl, Nat.le_of_ble_eq_true rfl⟩) hK hP hD hS hA [0, 1, 2] [] rfl rfl rfl rfl (by decide) rfl rfl rfl hl.1 rfl (Nat.le_of_ble_eq_true rfl) dX8_longestSearch_40 ⟨Nat.le_of_ble_eq_true rfl, Nat.le_of_ble_eq_true rfl⟩ (fun H locs hP hD hS => ?_)
        have hP : va_P D vwCl [(a_t, .inr (12, [.ref a_t_now, .ref a_t_tried, .ref a_t_kept, .int t_undos, .ref a_t_saved, .int t_isSaved, .ref a_t_line, .int t_lined, .ref a_t_text, .int t_length, .int t_at, .int t_order, .ref a_t_told, .int t_fault, .int t_reason, .int t_detail, .int t_index, .int t_answer, .int t_thrown_w, .ref a_t_way, .int t_went_40, .int t_fell_40])), (a_t_now, .inl (y 0, 77, .inl t_now)), (a_t_way, .inl (y 0, 24, .inl t_way_40))] H := hP
        have hD : va_D A [(a_t, .inr (12, [.ref a_t_now, .ref a_t_tried, .ref a_t_kept, .int t_undos, .ref a_t_saved, .int t_isSaved, .ref a_t_line, .int t_lined, .ref a_t_text, .int t_length, .int t_at, .int t_order, .ref a_t_told, .int t_fault, .int t_reason, .int t_detail, .int t_index, .int t_answer, .int t_thrown_w, .ref a_t_way, .int t_went_40, .int t_fell_40])), (a_t_now, .inl (y 0, 77, .inl t_now)), (a_t_way, .inl (y 0, 24, .inl t_way_40))] := hD
        refine lv_aload_n hx hb dX8_longestSearch_43 rfl (lv_at hl 0 rfl) ?_
        refine lv_aload_n hx hb dX8_longestSearch_44 rfl (lv_at hl 0 rfl) ?_
        refine lv_iload_n hx hb dX8_longestSearch_45 rfl (lv_at hl 1 rfl) ?_
        obtain ⟨r_46, hq_46, hF⟩ := bn_i hF
        refine cr_V (As := [.int x1]) (rest := [.ref a_t, .int r_40]) ⟨hx, hb, hml, hown, hts⟩ (c_X8_key l D y fl a_t a_t_now a_t_tried a_t_kept a_t_saved a_t_line a_t_text a_t_told a_t_way t_undos t_isSaved t_lined t_length t_at t_order t_fault t_reason t_detail t_index t_answer t_thrown_w t_went_40 t_fell_40 t_now x1 r_46 hq_46) (cwV 1 hts gX8_longestSearch_X8_key rfl rfl rfl (by decide +kernel) ⟨Nat.le_of_ble_eq_true rfl, Nat.le_of_ble_eq_true rfl⟩) hK hP [0, 1] rfl rfl rfl rfl hl.1 rfl (Nat.le_of_ble_eq_true rfl) dX8_longestSearch_46 ⟨Nat.le_of_ble_eq_true rfl, Nat.le_of_ble_eq_true rfl⟩ ?_
        obtain ⟨r_49, t_went_49, t_fell_49, t_way_49, hq_49, hF⟩ := bn4_i hF
        refine cm_Vi (As := [.int r_46]) (rest := [.int r_40]) (wr := []) ⟨hx, hb, hml, hown, hts⟩ (c_X8_searches l D y fl H.size a_t a_t_now a_t_tried a_t_kept a_t_saved a_t_line a_t_text a_t_told a_t_way t_undos t_isSaved t_lined t_length t_at t_order t_fault t_reason t_detail t_index t_answer t_thrown_w t_went_40 t_fell_40 t_now t_way_40 r_46 r_49 t_went_49 t_fell_49 t_way_49 hq_49) (cwV 1 hts gX8_longestSearch_X8_searches rfl rfl rfl (by decide +kernel) ⟨Nat.le_of_ble_eq_true rfl, Nat.le_of_ble_eq_true rfl⟩) hK hP hD hS hA [0, 1, 2] [] rfl rfl rfl rfl (by decide) rfl rfl rfl hl.1 rfl (Nat.le_of_ble_eq_true rfl) dX8_longestSearch_49 ⟨Nat.le_of_ble_eq_true rfl, Nat.le_of_ble_eq_true rfl⟩ (fun H locs hP hD hS => ?_)
        have hP : va_P D vwCl [(a_t, .inr (12, [.ref a_t_now, .ref a_t_tried, .ref a_t_kept, .int t_undos, .ref a_t_saved, .int t_isSaved, .ref a_t_line, .int t_lined, .ref a_t_text, .int t_length, .int t_at, .int t_order, .ref a_t_told, .int t_fault, .int t_reason, .int t_detail, .int t_index, .int t_answer, .int t_thrown_w, .ref a_t_way, .int t_went_49, .int t_fell_49])), (a_t_now, .inl (y 0, 77, .inl t_now)), (a_t_way, .inl (y 0, 24, .inl t_way_49))] H := hP
        have hD : va_D A [(a_t, .inr (12, [.ref a_t_now, .ref a_t_tried, .ref a_t_kept, .int t_undos, .ref a_t_saved, .int t_isSaved, .ref a_t_line, .int t_lined, .ref a_t_text, .int t_length, .int t_at, .int t_order, .ref a_t_told, .int t_fault, .int t_reason, .int t_detail, .int t_index, .int t_answer, .int t_thrown_w, .ref a_t_way, .int t_went_49, .int t_fell_49])), (a_t_now, .inl (y 0, 77, .inl t_now)), (a_t_way, .inl (y 0, 24, .inl t_way_49))] := hD
        refine lv_icmp_le (tgt := 57) hx hb dX8_longestSearch_52 (by decide) (fun c_52 => ?_) (fun c_52 => ?_)
        · have hF := ift hF c_52
          refine lv_iinc (v := x2 + (1 : Int32)) (lv' := [(2, .int (x2 + (1 : Int32))), (0, .ref a_t), (1, .int x1)]) hx hb dX8_longestSearch_57 hl (k := 2) rfl rfl (by decide) rfl (fun ls hl => ?_)
          refine lv_goto (tgt := 24) hx hb dX8_longestSearch_60 (by decide) ?_
          exact ih t_thrown_w t_went_49 t_fell_49 t_way_49 x1 (x2 + (1 : Int32)) hF _ _ hP hD hS ls (lv_sub hl [1, 2, 0] rfl)
        · have hF := iff_ hF c_52
          refine lv_iload_n hx hb dX8_longestSearch_55 rfl (lv_at hl 2 rfl) ?_
          refine lv_istore_n (lv' := [(1, .int x2), (0, .ref a_t), (2, .int x2)]) hx hb dX8_longestSearch_56 rfl hl (by decide) rfl (fun ls hl => ?_)
          refine lv_iinc (v := x2 + (1 : Int32)) (lv' := [(2, .int (x2 + (1 : Int32))), (1, .int x2), (0, .ref a_t)]) hx hb dX8_longestSearch_57 hl (k := 2) rfl rfl (by decide) rfl (fun ls hl => ?_)
          refine lv_goto (tgt := 24) hx hb dX8_longestSearch_60 (by decide) ?_
          exact ih t_thrown_w t_went_49 t_fell_49 t_way_49 x2 (x2 + (1 : Int32)) hF _ _ hP hD hS ls (lv_sub hl [2, 1, 0] rfl)
  refine W_entry hav (Nat.le_of_ble_eq_true rfl) (fun ls hl => ?_)
  have hl : lv_has ls 3 [(0, .ref a_t)] := hl
  refine lv_aload_n hx hb dX8_longestSearch_0 rfl (lv_at hl 0 rfl) ?_
  refine lv_iconst (v := 0) hx hb dX8_longestSearch_1 (by decide) ?_
  refine va_put (D := D) (ci := 12) (v := .int (0 : Int32)) (ty := .int) (C := RX8) (T := TX8) (N := 22) hx hb hts iX8_longestSearch_X8 tyX8 tyX8_ok nmX8 hown hK hP hD hS 0 rfl rfl 18 (by decide) (hts (.fieldLink RX8 39 "SkipArchiveModel" "thrown" "I") (List.mem_of_getElem? (i := 1) rfl)) (fun _ h9 => h9) rfl (by decide +kernel) rfl rfl (Nat.le_of_ble_eq_true rfl) dX8_longestSearch_2 (fun H locs hP hD hS => ?_)
  have hP : va_P D vwCl [(a_t, .inr (12, [.ref a_t_now, .ref a_t_tried, .ref a_t_kept, .int t_undos, .ref a_t_saved, .int t_isSaved, .ref a_t_line, .int t_lined, .ref a_t_text, .int t_length, .int t_at, .int t_order, .ref a_t_told, .int t_fault, .int t_reason, .int t_detail, .int t_index, .int t_answer, .int (0 : Int32), .ref a_t_way, .int t_went, .int t_fell])), (a_t_now, .inl (y 0, 77, .inl t_now)), (a_t_way, .inl (y 0, 24, .inl t_way))] H := hP
  have hD : va_D A [(a_t, .inr (12, [.ref a_t_now, .ref a_t_tried, .ref a_t_kept, .int t_undos, .ref a_t_saved, .int t_isSaved, .ref a_t_line, .int t_lined, .ref a_t_text, .int t_length, .int t_at, .int t_order, .ref a_t_told, .int t_fault, .int t_reason, .int t_detail, .int t_index, .int t_answer, .int (0 : Int32), .ref a_t_way, .int t_went, .int t_fell])), (a_t_now, .inl (y 0, 77, .inl t_now)), (a_t_way, .inl (y 0, 24, .inl t_way))] := hD
  refine lv_aload_n hx hb dX8_longestSearch_5 rfl (lv_at hl 0 rfl) ?_
  refine va_get (D := D) (ci := 12) (v := .ref a_t_now) (C := RX8) (T := TX8) (N := 22) hx hb hts iX8_longestSearch_X8 hown hK hP 0 rfl rfl 0 (by decide) (hts (.fieldLink RX8 9 "SkipArchiveModel" "now" "[I") (List.mem_of_getElem? (i := 2) rfl)) (fun _ h9 => h9) rfl dX8_longestSearch_6 ?_
  refine lv_iconst (v := 0) hx hb dX8_longestSearch_9 (by decide) ?_
  obtain ⟨g_10, hF⟩ := gi_i hF
  refine va_iald hx hb hK hP 1 0 rfl rfl g_10 dX8_longestSearch_10 ?_
  refine lv_if_ne (tgt := 20) hx hb dX8_longestSearch_11 (by decide) (fun c_11 => ?_) (fun c_11 => ?_)
  · have hF := iff_ hF c_11
    refine lv_iconst (v := 0) hx hb dX8_longestSearch_20 (by decide) ?_
    refine lv_istore_n (lv' := [(1, .int (0 : Int32)), (0, .ref a_t)]) hx hb dX8_longestSearch_21 rfl hl (by decide) rfl (fun ls hl => ?_)
    refine lv_iconst (v := 1) hx hb dX8_longestSearch_22 (by decide) ?_
    refine lv_istore_n (lv' := [(2, .int (1 : Int32)), (1, .int (0 : Int32)), (0, .ref a_t)]) hx hb dX8_longestSearch_23 rfl hl (by decide) rfl (fun ls hl => ?_)
    exact k_24 fl (0 : Int32) t_went t_fell t_way (0 : Int32) (1 : Int32) hF _ _ hP hD hS ls (lv_sub hl [2, 1, 0] rfl)
  · have hF := ift hF c_11
    refine lv_aload_n hx hb dX8_longestSearch_14 rfl (lv_at hl 0 rfl) ?_
    refine lv_iconst (v := 1) hx hb dX8_longestSearch_15 (by decide) ?_
    obtain ⟨r_16, t_thrown_16, hq_16, hF⟩ := bn2_i hF
    refine cm_Vi (As := [.int (1 : Int32)]) (rest := []) (wr := [(a_t_now, .inl (y 0, 77, .inl t_now)), (a_t_way, .inl (y 0, 24, .inl t_way))]) ⟨hx, hb, hml, hown, hts⟩ (c_X8_raises l D y fl H.size a_t a_t_now a_t_tried a_t_kept a_t_saved a_t_line a_t_text a_t_told a_t_way t_undos t_isSaved t_lined t_length t_at t_order t_fault t_reason t_detail t_index t_answer (0 : Int32) t_went t_fell (1 : Int32) r_16 t_thrown_16 hq_16) (cwV 1 hts gX8_longestSearch_X8_raises rfl rfl rfl (by decide +kernel) ⟨Nat.le_of_ble_eq_true rfl, Nat.le_of_ble_eq_true rfl⟩) hK hP hD hS hA [0] [1, 2] rfl rfl rfl rfl (by decide) rfl rfl rfl hl.1 rfl (Nat.le_of_ble_eq_true rfl) dX8_longestSearch_16 ⟨Nat.le_of_ble_eq_true rfl, Nat.le_of_ble_eq_true rfl⟩ (fun H locs hP hD hS => ?_)
    have hP : va_P D vwCl [(a_t_now, .inl (y 0, 77, .inl t_now)), (a_t_way, .inl (y 0, 24, .inl t_way)), (a_t, .inr (12, [.ref a_t_now, .ref a_t_tried, .ref a_t_kept, .int t_undos, .ref a_t_saved, .int t_isSaved, .ref a_t_line, .int t_lined, .ref a_t_text, .int t_length, .int t_at, .int t_order, .ref a_t_told, .int t_fault, .int t_reason, .int t_detail, .int t_index, .int t_answer, .int t_thrown_16, .ref a_t_way, .int t_went, .int t_fell]))] H := hP
    have hD : va_D A [(a_t_now, .inl (y 0, 77, .inl t_now)), (a_t_way, .inl (y 0, 24, .inl t_way)), (a_t, .inr (12, [.ref a_t_now, .ref a_t_tried, .ref a_t_kept, .int t_undos, .ref a_t_saved, .int t_isSaved, .ref a_t_line, .int t_lined, .ref a_t_text, .int t_length, .int t_at, .int t_order, .ref a_t_told, .int t_fault, .int t_reason, .int t_detail, .int t_index, .int t_answer, .int t_thrown_16, .ref a_t_way, .int t_went, .int t_fell]))] := hD
    obtain ⟨e0_19, e1_19, e2_19, e3_19, e4_19⟩ := inj5 hF
    rw [← e0_19, ← e1_19, ← e2_19, ← e3_19, ← e4_19] at hQ0
    rw [hQ0]
    exact ret_i hx hb hr hlocks hAe hK hP hD hS [2, 0, 1] rfl rfl dX8_longestSearch_19
def F_X8_nextRungs_29 (fl : Nat) : Nat → Int32 → (Nat → Int32) → Int32 → Int32 → Int32 → Int32 → Option (Int32 × Int32 × (Nat → Int32))
  | 0, _, _, _, _, _, _ => none
  | n + 1, t_thrown_w, t_now_w, x1, x2, x3, x4 => if (5 : Int32) ≤ x4 then (gi (1 : Int32) 77 (gi (2 : Int32) 77 (gi (3 : Int32) 77 (some (x4, t_thrown_w, upd (upd (upd t_now_w (1 : Int32).toNatClampNeg x1) (2 : Int32).toNatClampNeg x2) (3 : Int32).toNatClampNeg x3))))) else (bn2 (F_X8_tosses fl t_now_w) fun r_36 t_now_36 => if r_36 = 0 then (gi (1 : Int32) 77 (gi (2 : Int32) 77 (gi (3 : Int32) 77 (some (x4, t_thrown_w, upd (upd (upd t_now_36 (1 : Int32).toNatClampNeg x1) (2 : Int32).toNatClampNeg x2) (3 : Int32).toNatClampNeg x3))))) else (F_X8_nextRungs_29 fl n t_thrown_w t_now_36 x1 x2 x3 (x4 + (1 : Int32))))
def F_X8_nextRungs (fl : Nat) (t_thrown : Int32) (t_now : Nat → Int32) : Option (Int32 × Int32 × (Nat → Int32)) := gi (1 : Int32) 77 (gi (2 : Int32) 77 (gi (3 : Int32) 77 (F_X8_nextRungs_29 fl fl (0 : Int32) t_now (t_now (1 : Int32).toNatClampNeg) (t_now (2 : Int32).toNatClampNeg) (t_now (3 : Int32).toNatClampNeg) (1 : Int32))))
theorem iX8_nextRungs_X8 : ∀ w ∈ u_ws RX8 TX8 22, w ∈ wsX8_nextRungs := fun w h => List.mem_cons_of_mem _ (List.mem_append_left _ (List.mem_append_right _ h))
set_option maxHeartbeats 4000000 in
set_option maxRecDepth 100000 in
theorem c_X8_nextRungs (l : Launch) (D : va_G) (y : Nat → ClassId) (fl : Nat) (sz : Nat) (a_t : Nat) (a_t_now : Nat) (a_t_tried : Nat) (a_t_kept : Nat) (a_t_saved : Nat) (a_t_line : Nat) (a_t_text : Nat) (a_t_told : Nat) (a_t_way : Nat) (t_undos : Int32) (t_isSaved : Int32) (t_lined : Int32) (t_length : Int32) (t_at : Int32) (t_order : Int32) (t_fault : Int32) (t_reason : Int32) (t_detail : Int32) (t_index : Int32) (t_answer : Int32) (t_thrown : Int32) (t_went : Int32) (t_fell : Int32) (t_now : Nat → Int32) (r : Int32) (t_thrown' : Int32) (t_now' : Nat → Int32) (hF : F_X8_nextRungs fl t_thrown t_now = some (r, t_thrown', t_now')) : Met l yX8_nextRungs wsX8_nextRungs (rmq 1 21) (wrP D y [(a_t, .inr (12, [.ref a_t_now, .ref a_t_tried, .ref a_t_kept, .int t_undos, .ref a_t_saved, .int t_isSaved, .ref a_t_line, .int t_lined, .ref a_t_text, .int t_length, .int t_at, .int t_order, .ref a_t_told, .int t_fault, .int t_reason, .int t_detail, .int t_index, .int t_answer, .int t_thrown, .ref a_t_way, .int t_went, .int t_fell])), (a_t_now, .inl (y 0, 77, .inl t_now))] sz [.ref a_t]) (wQi D y r [(a_t, .inr (12, [.ref a_t_now, .ref a_t_tried, .ref a_t_kept, .int t_undos, .ref a_t_saved, .int t_isSaved, .ref a_t_line, .int t_lined, .ref a_t_text, .int t_length, .int t_at, .int t_order, .ref a_t_told, .int t_fault, .int t_reason, .int t_detail, .int t_index, .int t_answer, .int t_thrown', .ref a_t_way, .int t_went, .int t_fell])), (a_t_now, .inl (y 0, 77, .inl t_now'))] [(a_t, .inr (12, [.ref a_t_now, .ref a_t_tried, .ref a_t_kept, .int t_undos, .ref a_t_saved, .int t_isSaved, .ref a_t_line, .int t_lined, .ref a_t_text, .int t_length, .int t_at, .int t_order, .ref a_t_told, .int t_fault, .int t_reason, .int t_detail, .int t_index, .int t_answer, .int t_thrown, .ref a_t_way, .int t_went, .int t_fell])), (a_t_now, .inl (y 0, 77, .inl t_now))] sz) 0 0 (va_A [(a_t, .inr (12, [.ref a_t_now, .ref a_t_tried, .ref a_t_kept, .int t_undos, .ref a_t_saved, .int t_isSaved, .ref a_t_line, .int t_lined, .ref a_t_text, .int t_length, .int t_at, .int t_order, .ref a_t_told, .int t_fault, .int t_reason, .int t_detail, .int t_index, .int t_answer, .int t_thrown, .ref a_t_way, .int t_went, .int t_fell])), (a_t_now, .inl (y 0, 77, .inl t_now))] sz) := by
  refine Met.ofW (cc := cX8_nextRungs) (maxL := 5) (ret := (some .int)) (by decide) rfl ?_
  intro p e s m args below meth c s₁ B hml hv
  obtain ⟨hav, hsz, hP, hK, hD0⟩ := hv
  have hx := B.exec
  have hb := B.bytes
  have hr := B.returns
  have hts := atoms_spec (ws := wsX8_nextRungs) B.pre
  have hown : s.vm.findClass RX8 = some m.cls := findClass_of_methodNamed B.named
  have hlocks := B.notSynchronized
  subst hsz
  have hD := hD0.self (sz := s.heap.size)
  obtain ⟨A, hAe⟩ : ∃ A : Nat → Prop, va_A [(a_t, .inr (12, [.ref a_t_now, .ref a_t_tried, .ref a_t_kept, .int t_undos, .ref a_t_saved, .int t_isSaved, .ref a_t_line, .int t_lined, .ref a_t_text, .int t_length, .int t_at, .int t_order, .ref a_t_told, .int t_fault, .int t_reason, .int t_detail, .int t_index, .int t_answer, .int t_thrown, .ref a_t_way, .int t_went, .int t_fell])), (a_t_now, .inl (y 0, 77, .inl t_now))] s.heap.size = A := ⟨_, rfl⟩
  rw [hAe] at hD
  have hA : ∀ q, s.heap.size ≤ q → A q := fun q h => by rw [← hAe]; exact Or.inr h
  have hS : va_S A s.heap s.heap [] := va_S.rf
  refine W_q (R1 := (rmq 1 21)) rfl (fun Q0 hQ0 => ?_)
  unfold F_X8_nextRungs at hF
  have k_29 : ∀ (n : Nat) (t_thrown_w : Int32) (t_now_w : Nat → Int32) (x1 : Int32) (x2 : Int32) (x3 : Int32) (x4 : Int32), F_X8_nextRungs_29 fl n t_thrown_w t_now_w x1 x2 x3 x4 = some (r, t_thrown', t_now') → ∀ (H : Heap) (locs : List Loc), va_P D vwCl [(a_t, .inr (12, [.ref a_t_now, .ref a_t_tried, .ref a_t_kept, .int t_undos, .ref a_t_saved, .int t_isSaved, .ref a_t_line, .int t_lined, .ref a_t_text, .int t_length, .int t_at, .int t_order, .ref a_t_told, .int t_fault, .int t_reason, .int t_detail, .int t_index, .int t_answer, .int t_thrown_w, .ref a_t_way, .int t_went, .int t_fell])), (a_t_now, .inl (y 0, 77, .inl t_now_w))] H → va_D A [(a_t, .inr (12, [.ref a_t_now, .ref a_t_tried, .ref a_t_kept, .int t_undos, .ref a_t_saved, .int t_isSaved, .ref a_t_line, .int t_lined, .ref a_t_text, .int t_length, .int t_at, .int t_order, .ref a_t_told, .int t_fault, .int t_reason, .int t_detail, .int t_index, .int t_answer, .int t_thrown_w, .ref a_t_way, .int t_went, .int t_fell])), (a_t_now, .inl (y 0, 77, .inl t_now_w))] → va_S A s.heap H locs → ∀ (ls : Array Slot), lv_has ls 5 [(0, .ref a_t), (1, .int x1), (2, .int x2), (3, .int x3), (4, .int x4)] → W p l e (rmq 1 21) s m args below meth c H locs 0 0 Q0 (F0 m 29 ls []) := by
    intro n
    induction n with
    | zero => intro t_thrown_w t_now_w x1 x2 x3 x4 hF; rw [F_X8_nextRungs_29] at hF; cases hF
    | succ n ih =>
      intro t_thrown_w t_now_w x1 x2 x3 x4 hF H locs hP hD hS ls hl
      rw [F_X8_nextRungs_29] at hF
      refine lv_iload hx hb dX8_nextRungs_29 (lv_at hl 4 rfl) ?_
      refine lv_iconst (v := 5) hx hb dX8_nextRungs_31 (by decide) ?_
      refine lv_icmp_ge (tgt := 48) hx hb dX8_nextRungs_32 (by decide) (fun c_32 => ?_) (fun c_32 => ?_)
      · have hF := ift hF c_32
        refine lv_aload_n hx hb dX8_nextRungs_48 rfl (lv_at hl 0 rfl) ?_
        refine va_get (D := D) (ci := 12) (v := .ref a_t_now) (C := RX8) (T := TX8) (N := 22) hx hb hts iX8_nextRungs_X8 hown hK hP 0 rfl rfl 0 (by decide) (hts (.fieldLink RX8 9 "SkipArchiveModel" "now" "[I") (List.mem_of_getElem? (i := 2) rfl)) (fun _ h9 => h9) rfl dX8_nextRungs_49 ?_
        refine lv_iconst (v := 1) hx hb dX8_nextRungs_52 (by decide) ?_
        refine lv_iload_n hx hb dX8_nextRungs_53 rfl (lv_at hl 1 rfl) ?_
        obtain ⟨g_54, hF⟩ := gi_i hF
        refine va_iast hx hb hK hP hD hS 1 0 rfl rfl g_54 dX8_nextRungs_54 (fun H locs hP hD hS => ?_)
        have hP : va_P D vwCl [(a_t, .inr (12, [.ref a_t_now, .ref a_t_tried, .ref a_t_kept, .int t_undos, .ref a_t_saved, .int t_isSaved, .ref a_t_line, .int t_lined, .ref a_t_text, .int t_length, .int t_at, .int t_order, .ref a_t_told, .int t_fault, .int t_reason, .int t_detail, .int t_index, .int t_answer, .int t_thrown_w, .ref a_t_way, .int t_went, .int t_fell])), (a_t_now, .inl (y 0, 77, .inl (upd t_now_w (1 : Int32).toNatClampNeg x1)))] H := hP
        have hD : va_D A [(a_t, .inr (12, [.ref a_t_now, .ref a_t_tried, .ref a_t_kept, .int t_undos, .ref a_t_saved, .int t_isSaved, .ref a_t_line, .int t_lined, .ref a_t_text, .int t_length, .int t_at, .int t_order, .ref a_t_told, .int t_fault, .int t_reason, .int t_detail, .int t_index, .int t_answer, .int t_thrown_w, .ref a_t_way, .int t_went, .int t_fell])), (a_t_now, .inl (y 0, 77, .inl (upd t_now_w (1 : Int32).toNatClampNeg x1)))] := hD
        refine lv_aload_n hx hb dX8_nextRungs_55 rfl (lv_at hl 0 rfl) ?_
        refine va_get (D := D) (ci := 12) (v := .ref a_t_now) (C := RX8) (T := TX8) (N := 22) hx hb hts iX8_nextRungs_X8 hown hK hP 0 rfl rfl 0 (by decide) (hts (.fieldLink RX8 9 "SkipArchiveModel" "now" "[I") (List.mem_of_getElem? (i := 2) rfl)) (fun _ h9 => h9) rfl dX8_nextRungs_56 ?_
        refine lv_iconst (v := 2) hx hb dX8_nextRungs_59 (by decide) ?_
        refine lv_iload_n hx hb dX8_nextRungs_60 rfl (lv_at hl 2 rfl) ?_
        obtain ⟨g_61, hF⟩ := gi_i hF
        refine va_iast hx hb hK hP hD hS 1 0 rfl rfl g_61 dX8_nextRungs_61 (fun H locs hP hD hS => ?_)
        have hP : va_P D vwCl [(a_t, .inr (12, [.ref a_t_now, .ref a_t_tried, .ref a_t_kept, .int t_undos, .ref a_t_saved, .int t_isSaved, .ref a_t_line, .int t_lined, .ref a_t_text, .int t_length, .int t_at, .int t_order, .ref a_t_told, .int t_fault, .int t_reason, .int t_detail, .int t_index, .int t_answer, .int t_thrown_w, .ref a_t_way, .int t_went, .int t_fell])), (a_t_now, .inl (y 0, 77, .inl (upd (upd t_now_w (1 : Int32).toNatClampNeg x1) (2 : Int32).toNatClampNeg x2)))] H := hP
        have hD : va_D A [(a_t, .inr (12, [.ref a_t_now, .ref a_t_tried, .ref a_t_kept, .int t_undos, .ref a_t_saved, .int t_isSaved, .ref a_t_line, .int t_lined, .ref a_t_text, .int t_length, .int t_at, .int t_order, .ref a_t_told, .int t_fault, .int t_reason, .int t_detail, .int t_index, .int t_answer, .int t_thrown_w, .ref a_t_way, .int t_went, .int t_fell])), (a_t_now, .inl (y 0, 77, .inl (upd (upd t_now_w (1 : Int32).toNatClampNeg x1) (2 : Int32).toNatClampNeg x2)))] := hD
        refine lv_aload_n hx hb dX8_nextRungs_62 rfl (lv_at hl 0 rfl) ?_
        refine va_get (D := D) (ci := 12) (v := .ref a_t_now) (C := RX8) (T := TX8) (N := 22) hx hb hts iX8_nextRungs_X8 hown hK hP 0 rfl rfl 0 (by decide) (hts (.fieldLink RX8 9 "SkipArchiveModel" "now" "[I") (List.mem_of_getElem? (i := 2) rfl)) (fun _ h9 => h9) rfl dX8_nextRungs_63 ?_
        refine lv_iconst (v := 3) hx hb dX8_nextRungs_66 (by decide) ?_
        refine lv_iload_n hx hb dX8_nextRungs_67 rfl (lv_at hl 3 rfl) ?_
        obtain ⟨g_68, hF⟩ := gi_i hF
        refine va_iast hx hb hK hP hD hS 1 0 rfl rfl g_68 dX8_nextRungs_68 (fun H locs hP hD hS => ?_)
        have hP : va_P D vwCl [(a_t, .inr (12, [.ref a_t_now, .ref a_t_tried, .ref a_t_kept, .int t_undos, .ref a_t_saved, .int t_isSaved, .ref a_t_line, .int t_lined, .ref a_t_text, .int t_length, .int t_at, .int t_order, .ref a_t_told, .int t_fault, .int t_reason, .int t_detail, .int t_index, .int t_answer, .int t_thrown_w, .ref a_t_way, .int t_went, .int t_fell])), (a_t_now, .inl (y 0, 77, .inl (upd (upd (upd t_now_w (1 : Int32).toNatClampNeg x1) (2 : Int32).toNatClampNeg x2) (3 : Int32).toNatClampNeg x3)))] H := hP
        have hD : va_D A [(a_t, .inr (12, [.ref a_t_now, .ref a_t_tried, .ref a_t_kept, .int t_undos, .ref a_t_saved, .int t_isSaved, .ref a_t_line, .int t_lined, .ref a_t_text, .int t_length, .int t_at, .int t_order, .ref a_t_told, .int t_fault, .int t_reason, .int t_detail, .int t_index, .int t_answer, .int t_thrown_w, .ref a_t_way, .int t_went, .int t_fell])), (a_t_now, .inl (y 0, 77, .inl (upd (upd (upd t_now_w (1 : Int32).toNatClampNeg x1) (2 : Int32).toNatClampNeg x2) (3 : Int32).toNatClampNeg x3)))] := hD
        refine lv_iload hx hb dX8_nextRungs_69 (lv_at hl 4 rfl) ?_
        obtain ⟨e0_71, e1_71, e2_71⟩ := inj3 hF
        rw [← e0_71, ← e1_71, ← e2_71] at hQ0
        rw [hQ0]
        exact ret_i hx hb hr hlocks hAe hK hP hD hS [0, 1] rfl rfl dX8_nextRungs_71
      · have hF := iff_ hF c_32
        refine lv_aload_n hx hb dX8_nextRungs_35 rfl (lv_at hl 0 rfl) ?_
        obtain ⟨r_36, t_now_36, hq_36, hF⟩ := bn2_i hF
        refine cm_Vi (As := []) (rest := []) (wr := []) ⟨hx, hb, hml, hown, hts⟩ (c_X8_tosses l D y fl H.size a_t a_t_now a_t_tried a_t_kept a_t_saved a_t_line a_t_text a_t_told a_t_way t_undos t_isSaved t_lined t_length t_at t_order t_fault t_reason t_detail t_index t_answer t_thrown_w t_went t_fell t_now_w r_36 t_now_36 hq_36) (cwV 0 hts gX8_nextRungs_X8_tosses rfl rfl rfl (by decide +kernel) ⟨Nat.le_of_ble_eq_true rfl, Nat.le_of_ble_eq_true rfl⟩) hK hP hD hS hA [0, 1] [] rfl rfl rfl rfl (by decide) rfl rfl rfl hl.1 rfl (Nat.le_of_ble_eq_true rfl) dX8_nextRungs_36 ⟨Nat.le_of_ble_eq_true rfl, Nat.le_of_ble_eq_true rfl⟩ (fun H locs hP hD hS => ?_)
        have hP : va_P D vwCl [(a_t, .inr (12, [.ref a_t_now, .ref a_t_tried, .ref a_t_kept, .int t_undos, .ref a_t_saved, .int t_isSaved, .ref a_t_line, .int t_lined, .ref a_t_text, .int t_length, .int t_at, .int t_order, .ref a_t_told, .int t_fault, .int t_reason, .int t_detail, .int t_index, .int t_answer, .int t_thrown_w, .ref a_t_way, .int t_went, .int t_fell])), (a_t_now, .inl (y 0, 77, .inl t_now_36))] H := hP
        have hD : va_D A [(a_t, .inr (12, [.ref a_t_now, .ref a_t_tried, .ref a_t_kept, .int t_undos, .ref a_t_saved, .int t_isSaved, .ref a_t_line, .int t_lined, .ref a_t_text, .int t_length, .int t_at, .int t_order, .ref a_t_told, .int t_fault, .int t_reason, .int t_detail, .int t_index, .int t_answer, .int t_thrown_w, .ref a_t_way, .int t_went, .int t_fell])), (a_t_now, .inl (y 0, 77, .inl t_now_36))] := hD
        refine lv_if_eq (tgt := 48) hx hb dX8_nextRungs_39 (by decide) (fun c_39 => ?_) (fun c_39 => ?_)
        · have hF := ift hF c_39
          refine lv_aload_n hx hb dX8_nextRungs_48 rfl (lv_at hl 0 rfl) ?_
          refine va_get (D := D) (ci := 12) (v := .ref a_t_now) (C := RX8) (T := TX8) (N := 22) hx hb hts iX8_nextRungs_X8 hown hK hP 0 rfl rfl 0 (by decide) (hts (.fieldLink RX8 9 "SkipArchiveModel" "now" "[I") (List.mem_of_getElem? (i := 2) rfl)) (fun _ h9 => h9) rfl dX8_nextRungs_49 ?_
          refine lv_iconst (v := 1) hx hb dX8_nextRungs_52 (by decide) ?_
          refine lv_iload_n hx hb dX8_nextRungs_53 rfl (lv_at hl 1 rfl) ?_
          obtain ⟨g_54b, hF⟩ := gi_i hF
          refine va_iast hx hb hK hP hD hS 1 0 rfl rfl g_54b dX8_nextRungs_54 (fun H locs hP hD hS => ?_)
          have hP : va_P D vwCl [(a_t, .inr (12, [.ref a_t_now, .ref a_t_tried, .ref a_t_kept, .int t_undos, .ref a_t_saved, .int t_isSaved, .ref a_t_line, .int t_lined, .ref a_t_text, .int t_length, .int t_at, .int t_order, .ref a_t_told, .int t_fault, .int t_reason, .int t_detail, .int t_index, .int t_answer, .int t_thrown_w, .ref a_t_way, .int t_went, .int t_fell])), (a_t_now, .inl (y 0, 77, .inl (upd t_now_36 (1 : Int32).toNatClampNeg x1)))] H := hP
          have hD : va_D A [(a_t, .inr (12, [.ref a_t_now, .ref a_t_tried, .ref a_t_kept, .int t_undos, .ref a_t_saved, .int t_isSaved, .ref a_t_line, .int t_lined, .ref a_t_text, .int t_length, .int t_at, .int t_order, .ref a_t_told, .int t_fault, .int t_reason, .int t_detail, .int t_index, .int t_answer, .int t_thrown_w, .ref a_t_way, .int t_went, .int t_fell])), (a_t_now, .inl (y 0, 77, .inl (upd t_now_36 (1 : Int32).toNatClampNeg x1)))] := hD
          refine lv_aload_n hx hb dX8_nextRungs_55 rfl (lv_at hl 0 rfl) ?_
          refine va_get (D := D) (ci := 12) (v := .ref a_t_now) (C := RX8) (T := TX8) (N := 22) hx hb hts iX8_nextRungs_X8 hown hK hP 0 rfl rfl 0 (by decide) (hts (.fieldLink RX8 9 "SkipArchiveModel" "now" "[I") (List.mem_of_getElem? (i := 2) rfl)) (fun _ h9 => h9) rfl dX8_nextRungs_56 ?_
          refine lv_iconst (v := 2) hx hb dX8_nextRungs_59 (by decide) ?_
          refine lv_iload_n hx hb dX8_nextRungs_60 rfl (lv_at hl 2 rfl) ?_
          obtain ⟨g_61b, hF⟩ := gi_i hF
          refine va_iast hx hb hK hP hD hS 1 0 rfl rfl g_61b dX8_nextRungs_61 (fun H locs hP hD hS => ?_)
          have hP : va_P D vwCl [(a_t, .inr (12, [.ref a_t_now, .ref a_t_tried, .ref a_t_kept, .int t_undos, .ref a_t_saved, .int t_isSaved, .ref a_t_line, .int t_lined, .ref a_t_text, .int t_length, .int t_at, .int t_order, .ref a_t_told, .int t_fault, .int t_reason, .int t_detail, .int t_index, .int t_answer, .int t_thrown_w, .ref a_t_way, .int t_went, .int t_fell])), (a_t_now, .inl (y 0, 77, .inl (upd (upd t_now_36 (1 : Int32).toNatClampNeg x1) (2 : Int32).toNatClampNeg x2)))] H := hP
          have hD : va_D A [(a_t, .inr (12, [.ref a_t_now, .ref a_t_tried, .ref a_t_kept, .int t_undos, .ref a_t_saved, .int t_isSaved, .ref a_t_line, .int t_lined, .ref a_t_text, .int t_length, .int t_at, .int t_order, .ref a_t_told, .int t_fault, .int t_reason, .int t_detail, .int t_index, .int t_answer, .int t_thrown_w, .ref a_t_way, .int t_went, .int t_fell])), (a_t_now, .inl (y 0, 77, .inl (upd (upd t_now_36 (1 : Int32).toNatClampNeg x1) (2 : Int32).toNatClampNeg x2)))] := hD
          refine lv_aload_n hx hb dX8_nextRungs_62 rfl (lv_at hl 0 rfl) ?_
          refine va_get (D := D) (ci := 12) (v := .ref a_t_now) (C := RX8) (T := TX8) (N := 22) hx hb hts iX8_nextRungs_X8 hown hK hP 0 rfl rfl 0 (by decide) (hts (.fieldLink RX8 9 "SkipArchiveModel" "now" "[I") (List.mem_of_getElem? (i := 2) rfl)) (fun _ h9 => h9) rfl dX8_nextRungs_63 ?_
          refine lv_iconst (v := 3) hx hb dX8_nextRungs_66 (by decide) ?_
          refine lv_iload_n hx hb dX8_nextRungs_67 rfl (lv_at hl 3 rfl) ?_
          obtain ⟨g_68b, hF⟩ := gi_i hF
          refine va_iast hx hb hK hP hD hS 1 0 rfl rfl g_68b dX8_nextRungs_68 (fun H locs hP hD hS => ?_)
          have hP : va_P D vwCl [(a_t, .inr (12, [.ref a_t_now, .ref a_t_tried, .ref a_t_kept, .int t_undos, .ref a_t_saved, .int t_isSaved, .ref a_t_line, .int t_lined, .ref a_t_text, .int t_length, .int t_at, .int t_order, .ref a_t_told, .int t_fault, .int t_reason, .int t_detail, .int t_index, .int t_answer, .int t_thrown_w, .ref a_t_way, .int t_went, .int t_fell])), (a_t_now, .inl (y 0, 77, .inl (upd (upd (upd t_now_36 (1 : Int32).toNatClampNeg x1) (2 : Int32).toNatClampNeg x2) (3 : Int32).toNatClampNeg x3)))] H := hP
          have hD : va_D A [(a_t, .inr (12, [.ref a_t_now, .ref a_t_tried, .ref a_t_kept, .int t_undos, .ref a_t_saved, .int t_isSaved, .ref a_t_line, .int t_lined, .ref a_t_text, .int t_length, .int t_at, .int t_order, .ref a_t_told, .int t_fault, .int t_reason, .int t_detail, .int t_index, .int t_answer, .int t_thrown_w, .ref a_t_way, .int t_went, .int t_fell])), (a_t_now, .inl (y 0, 77, .inl (upd (upd (upd t_now_36 (1 : Int32).toNatClampNeg x1) (2 : Int32).toNatClampNeg x2) (3 : Int32).toNatClampNeg x3)))] := hD
          refine lv_iload hx hb dX8_nextRungs_69 (lv_at hl 4 rfl) ?_
          obtain ⟨e0_71, e1_71, e2_71⟩ := inj3 hF
          rw [← e0_71, ← e1_71, ← e2_71] at hQ0
          rw [hQ0]
          exact ret_i hx hb hr hlocks hAe hK hP hD hS [0, 1] rfl rfl dX8_nextRungs_71
        · have hF := iff_ hF c_39
          refine lv_iinc (v := x4 + (1 : Int32)) (lv' := [(4, .int (x4 + (1 : Int32))), (0, .ref a_t), (1, .int x1), (2, .int x2), (3, .int x3)]) hx hb dX8_nextRungs_42 hl (k := 4) rfl rfl (by decide) rfl (fun ls hl => ?_)
          refine lv_goto (tgt := 29) hx hb dX8_nextRungs_45 (by decide) ?_
          exact ih t_thrown_w t_now_36 x1 x2 x3 (x4 + (1 : Int32)) hF _ _ hP hD hS ls (lv_sub hl [1, 2, 3, 4, 0] rfl)
  refine W_entry hav (Nat.le_of_ble_eq_true rfl) (fun ls hl => ?_)
  have hl : lv_has ls 5 [(0, .ref a_t)] := hl
  refine lv_aload_n hx hb dX8_nextRungs_0 rfl (lv_at hl 0 rfl) ?_
  refine lv_iconst (v := 0) hx hb dX8_nextRungs_1 (by decide) ?_
  refine va_put (D := D) (ci := 12) (v := .int (0 : Int32)) (ty := .int) (C := RX8) (T := TX8) (N := 22) hx hb hts iX8_nextRungs_X8 tyX8 tyX8_ok nmX8 hown hK hP hD hS 0 rfl rfl 18 (by decide) (hts (.fieldLink RX8 39 "SkipArchiveModel" "thrown" "I") (List.mem_of_getElem? (i := 1) rfl)) (fun _ h9 => h9) rfl (by decide +kernel) rfl rfl (Nat.le_of_ble_eq_true rfl) dX8_nextRungs_2 (fun H locs hP hD hS => ?_)
  have hP : va_P D vwCl [(a_t, .inr (12, [.ref a_t_now, .ref a_t_tried, .ref a_t_kept, .int t_undos, .ref a_t_saved, .int t_isSaved, .ref a_t_line, .int t_lined, .ref a_t_text, .int t_length, .int t_at, .int t_order, .ref a_t_told, .int t_fault, .int t_reason, .int t_detail, .int t_index, .int t_answer, .int (0 : Int32), .ref a_t_way, .int t_went, .int t_fell])), (a_t_now, .inl (y 0, 77, .inl t_now))] H := hP
  have hD : va_D A [(a_t, .inr (12, [.ref a_t_now, .ref a_t_tried, .ref a_t_kept, .int t_undos, .ref a_t_saved, .int t_isSaved, .ref a_t_line, .int t_lined, .ref a_t_text, .int t_length, .int t_at, .int t_order, .ref a_t_told, .int t_fault, .int t_reason, .int t_detail, .int t_index, .int t_answer, .int (0 : Int32), .ref a_t_way, .int t_went, .int t_fell])), (a_t_now, .inl (y 0, 77, .inl t_now))] := hD
  refine lv_aload_n hx hb dX8_nextRungs_5 rfl (lv_at hl 0 rfl) ?_
  refine va_get (D := D) (ci := 12) (v := .ref a_t_now) (C := RX8) (T := TX8) (N := 22) hx hb hts iX8_nextRungs_X8 hown hK hP 0 rfl rfl 0 (by decide) (hts (.fieldLink RX8 9 "SkipArchiveModel" "now" "[I") (List.mem_of_getElem? (i := 2) rfl)) (fun _ h9 => h9) rfl dX8_nextRungs_6 ?_
  refine lv_iconst (v := 1) hx hb dX8_nextRungs_9 (by decide) ?_
  obtain ⟨g_10, hF⟩ := gi_i hF
  refine va_iald hx hb hK hP 1 0 rfl rfl g_10 dX8_nextRungs_10 ?_
  refine lv_istore_n (lv' := [(1, .int (t_now (1 : Int32).toNatClampNeg)), (0, .ref a_t)]) hx hb dX8_nextRungs_11 rfl hl (by decide) rfl (fun ls hl => ?_)
  refine lv_aload_n hx hb dX8_nextRungs_12 rfl (lv_at hl 1 rfl) ?_
  refine va_get (D := D) (ci := 12) (v := .ref a_t_now) (C := RX8) (T := TX8) (N := 22) hx hb hts iX8_nextRungs_X8 hown hK hP 0 rfl rfl 0 (by decide) (hts (.fieldLink RX8 9 "SkipArchiveModel" "now" "[I") (List.mem_of_getElem? (i := 2) rfl)) (fun _ h9 => h9) rfl dX8_nextRungs_13 ?_
  refine lv_iconst (v := 2) hx hb dX8_nextRungs_16 (by decide) ?_
  obtain ⟨g_17, hF⟩ := gi_i hF
  refine va_iald hx hb hK hP 1 0 rfl rfl g_17 dX8_nextRungs_17 ?_
  refine lv_istore_n (lv' := [(2, .int (t_now (2 : Int32).toNatClampNeg)), (1, .int (t_now (1 : Int32).toNatClampNeg)), (0, .ref a_t)]) hx hb dX8_nextRungs_18 rfl hl (by decide) rfl (fun ls hl => ?_)
  refine lv_aload_n hx hb dX8_nextRungs_19 rfl (lv_at hl 2 rfl) ?_
  refine va_get (D := D) (ci := 12) (v := .ref a_t_now) (C := RX8) (T := TX8) (N := 22) hx hb hts iX8_nextRungs_X8 hown hK hP 0 rfl rfl 0 (by decide) (hts (.fieldLink RX8 9 "SkipArchiveModel" "now" "[I") (List.mem_of_getElem? (i := 2) rfl)) (fun _ h9 => h9) rfl dX8_nextRungs_20 ?_
  refine lv_iconst (v := 3) hx hb dX8_nextRungs_23 (by decide) ?_
  obtain ⟨g_24, hF⟩ := gi_i hF
  refine va_iald hx hb hK hP 1 0 rfl rfl g_24 dX8_nextRungs_24 ?_
  refine lv_istore_n (lv' := [(3, .int (t_now (3 : Int32).toNatClampNeg)), (2, .int (t_now (2 : Int32).toNatClampNeg)), (1, .int (t_now (1 : Int32).toNatClampNeg)), (0, .ref a_t)]) hx hb dX8_nextRungs_25 rfl hl (by decide) rfl (fun ls hl => ?_)
  refine lv_iconst (v := 1) hx hb dX8_nextRungs_26 (by decide) ?_
  refine lv_istore (lv' := [(4, .int (1 : Int32)), (3, .int (t_now (3 : Int32).toNatClampNeg)), (2, .int (t_now (2 : Int32).toNatClampNeg)), (1, .int (t_now (1 : Int32).toNatClampNeg)), (0, .ref a_t)]) hx hb dX8_nextRungs_27 hl (by decide) rfl (fun ls hl => ?_)
  exact k_29 fl (0 : Int32) t_now (t_now (1 : Int32).toNatClampNeg) (t_now (2 : Int32).toNatClampNeg) (t_now (3 : Int32).toNatClampNeg) (1 : Int32) hF _ _ hP hD hS ls (lv_sub hl [4, 3, 2, 1, 0] rfl)
def F_X8_append (fl : Nat) (t_length : Int32) (t_thrown : Int32) (t_text : Nat → Int32) (p1 : Int32) : Option (Int32 × Int32 × Int32 × (Nat → Int32)) := if t_length = (60 : Int32) then (bn2 (F_X8_raises fl (0 : Int32) (1 : Int32)) fun r_16 t_thrown_16 => some (r_16, t_length, t_thrown_16, t_text)) else (gi t_length 60 (some (t_length + (1 : Int32), t_length + (1 : Int32), (0 : Int32), upd t_text t_length.toNatClampNeg (vp_nar .char p1))))
theorem iX8_append_X8 : ∀ w ∈ u_ws RX8 TX8 22, w ∈ wsX8_append := fun w h => List.mem_cons_of_mem _ (List.mem_append_left _ (List.mem_append_right _ h))
set_option maxHeartbeats 4000000 in
set_option maxRecDepth 100000 in
theorem c_X8_append (l : Launch) (D : va_G) (y : Nat → ClassId) (fl : Nat) (sz : Nat) (a_t : Nat) (a_t_now : Nat) (a_t_tried : Nat) (a_t_kept : Nat) (a_t_saved : Nat) (a_t_line : Nat) (a_t_text : Nat) (a_t_told : Nat) (a_t_way : Nat) (t_undos : Int32) (t_isSaved : Int32) (t_lined : Int32) (t_length : Int32) (t_at : Int32) (t_order : Int32) (t_fault : Int32) (t_reason : Int32) (t_detail : Int32) (t_index : Int32) (t_answer : Int32) (t_thrown : Int32) (t_went : Int32) (t_fell : Int32) (t_text : Nat → Int32) (p1 : Int32) (r : Int32) (t_length' : Int32) (t_thrown' : Int32) (t_text' : Nat → Int32) (hF : F_X8_append fl t_length t_thrown t_text p1 = some (r, t_length', t_thrown', t_text')) : Met l yX8_append wsX8_append (rmq 1 21) (wrP D y [(a_t, .inr (12, [.ref a_t_now, .ref a_t_tried, .ref a_t_kept, .int t_undos, .ref a_t_saved, .int t_isSaved, .ref a_t_line, .int t_lined, .ref a_t_text, .int t_length, .int t_at, .int t_order, .ref a_t_told, .int t_fault, .int t_reason, .int t_detail, .int t_index, .int t_answer, .int t_thrown, .ref a_t_way, .int t_went, .int t_fell])), (a_t_text, .inl (y 1, 60, .inl t_text))] sz [.ref a_t, .int p1]) (wQi D y r [(a_t, .inr (12, [.ref a_t_now, .ref a_t_tried, .ref a_t_kept, .int t_undos, .ref a_t_saved, .int t_isSaved, .ref a_t_line, .int t_lined, .ref a_t_text, .int t_length', .int t_at, .int t_order, .ref a_t_told, .int t_fault, .int t_reason, .int t_detail, .int t_index, .int t_answer, .int t_thrown', .ref a_t_way, .int t_went, .int t_fell])), (a_t_text, .inl (y 1, 60, .inl t_text'))] [(a_t, .inr (12, [.ref a_t_now, .ref a_t_tried, .ref a_t_kept, .int t_undos, .ref a_t_saved, .int t_isSaved, .ref a_t_line, .int t_lined, .ref a_t_text, .int t_length, .int t_at, .int t_order, .ref a_t_told, .int t_fault, .int t_reason, .int t_detail, .int t_index, .int t_answer, .int t_thrown, .ref a_t_way, .int t_went, .int t_fell])), (a_t_text, .inl (y 1, 60, .inl t_text))] sz) 0 0 (va_A [(a_t, .inr (12, [.ref a_t_now, .ref a_t_tried, .ref a_t_kept, .int t_undos, .ref a_t_saved, .int t_isSaved, .ref a_t_line, .int t_lined, .ref a_t_text, .int t_length, .int t_at, .int t_order, .ref a_t_told, .int t_fault, .int t_reason, .int t_detail, .int t_index, .int t_answer, .int t_thrown, .ref a_t_way, .int t_went, .int t_fell])), (a_t_text, .inl (y 1, 60, .inl t_text))] sz) := by
  refine Met.ofW (cc := cX8_append) (maxL := 2) (ret := (some .int)) (by decide) rfl ?_
  intro p e s m args below meth c s₁ B hml hv
  obtain ⟨hav, hsz, hP, hK, hD0⟩ := hv
  have hx := B.exec
  have hb := B.bytes
  have hr := B.returns
  have hts := atoms_spec (ws := wsX8_append) B.pre
  have hown : s.vm.findClass RX8 = some m.cls := findClass_of_methodNamed B.named
  have hlocks := B.notSynchronized
  subst hsz
  have hD := hD0.self (sz := s.heap.size)
  obtain ⟨A, hAe⟩ : ∃ A : Nat → Prop, va_A [(a_t, .inr (12, [.ref a_t_now, .ref a_t_tried, .ref a_t_kept, .int t_undos, .ref a_t_saved, .int t_isSaved, .ref a_t_line, .int t_lined, .ref a_t_text, .int t_length, .int t_at, .int t_order, .ref a_t_told, .int t_fault, .int t_reason, .int t_detail, .int t_index, .int t_answer, .int t_thrown, .ref a_t_way, .int t_went, .int t_fell])), (a_t_text, .inl (y 1, 60, .inl t_text))] s.heap.size = A := ⟨_, rfl⟩
  rw [hAe] at hD
  have hA : ∀ q, s.heap.size ≤ q → A q := fun q h => by rw [← hAe]; exact Or.inr h
  have hS : va_S A s.heap s.heap [] := va_S.rf
  refine W_q (R1 := (rmq 1 21)) rfl (fun Q0 hQ0 => ?_)
  unfold F_X8_append at hF
  refine W_entry hav (Nat.le_of_ble_eq_true rfl) (fun ls hl => ?_)
  have hl : lv_has ls 2 [(0, .ref a_t), (1, .int p1)] := hl
  refine lv_aload_n hx hb dX8_append_0 rfl (lv_at hl 0 rfl) ?_
  refine lv_iconst (v := 0) hx hb dX8_append_1 (by decide) ?_
  refine va_put (D := D) (ci := 12) (v := .int (0 : Int32)) (ty := .int) (C := RX8) (T := TX8) (N := 22) hx hb hts iX8_append_X8 tyX8 tyX8_ok nmX8 hown hK hP hD hS 0 rfl rfl 18 (by decide) (hts (.fieldLink RX8 39 "SkipArchiveModel" "thrown" "I") (List.mem_of_getElem? (i := 1) rfl)) (fun _ h9 => h9) rfl (by decide +kernel) rfl rfl (Nat.le_of_ble_eq_true rfl) dX8_append_2 (fun H locs hP hD hS => ?_)
  have hP : va_P D vwCl [(a_t, .inr (12, [.ref a_t_now, .ref a_t_tried, .ref a_t_kept, .int t_undos, .ref a_t_saved, .int t_isSaved, .ref a_t_line, .int t_lined, .ref a_t_text, .int t_length, .int t_at, .int t_order, .ref a_t_told, .int t_fault, .int t_reason, .int t_detail, .int t_index, .int t_answer, .int (0 : Int32), .ref a_t_way, .int t_went, .int t_fell])), (a_t_text, .inl (y 1, 60, .inl t_text))] H := hP
  have hD : va_D A [(a_t, .inr (12, [.ref a_t_now, .ref a_t_tried, .ref a_t_kept, .int t_undos, .ref a_t_saved, .int t_isSaved, .ref a_t_line, .int t_lined, .ref a_t_text, .int t_length, .int t_at, .int t_order, .ref a_t_told, .int t_fault, .int t_reason, .int t_detail, .int t_index, .int t_answer, .int (0 : Int32), .ref a_t_way, .int t_went, .int t_fell])), (a_t_text, .inl (y 1, 60, .inl t_text))] := hD
  refine lv_aload_n hx hb dX8_append_5 rfl (lv_at hl 0 rfl) ?_
  refine va_get (D := D) (ci := 12) (v := .int t_length) (C := RX8) (T := TX8) (N := 22) hx hb hts iX8_append_X8 hown hK hP 0 rfl rfl 9 (by decide) (hts (.fieldLink RX8 167 "SkipArchiveModel" "length" "I") (List.mem_of_getElem? (i := 2) rfl)) (fun _ h9 => h9) rfl dX8_append_6 ?_
  refine lv_bipush (v := 60) hx hb dX8_append_9 (by decide) ?_
  refine lv_icmp_ne (tgt := 20) hx hb dX8_append_11 (by decide) (fun c_11 => ?_) (fun c_11 => ?_)
  · have hF := iff_ hF c_11
    refine lv_aload_n hx hb dX8_append_20 rfl (lv_at hl 0 rfl) ?_
    refine va_get (D := D) (ci := 12) (v := .ref a_t_text) (C := RX8) (T := TX8) (N := 22) hx hb hts iX8_append_X8 hown hK hP 0 rfl rfl 8 (by decide) (hts (.fieldLink RX8 26 "SkipArchiveModel" "text" "[C") (List.mem_of_getElem? (i := 3) rfl)) (fun _ h9 => h9) rfl dX8_append_21 ?_
    refine lv_aload_n hx hb dX8_append_24 rfl (lv_at hl 0 rfl) ?_
    refine lv_dup hx hb dX8_append_25 rfl ?_
    refine va_get (D := D) (ci := 12) (v := .int t_length) (C := RX8) (T := TX8) (N := 22) hx hb hts iX8_append_X8 hown hK hP 0 rfl rfl 9 (by decide) (hts (.fieldLink RX8 167 "SkipArchiveModel" "length" "I") (List.mem_of_getElem? (i := 2) rfl)) (fun _ h9 => h9) rfl dX8_append_26 ?_
    refine lv_dup_x1 hx hb dX8_append_29 rfl rfl ?_
    refine lv_iconst (v := 1) hx hb dX8_append_30 (by decide) ?_
    refine lv_iadd hx hb dX8_append_31 ?_
    refine va_put (D := D) (ci := 12) (v := .int (t_length + (1 : Int32))) (ty := .int) (C := RX8) (T := TX8) (N := 22) hx hb hts iX8_append_X8 tyX8 tyX8_ok nmX8 hown hK hP hD hS 0 rfl rfl 9 (by decide) (hts (.fieldLink RX8 167 "SkipArchiveModel" "length" "I") (List.mem_of_getElem? (i := 2) rfl)) (fun _ h9 => h9) rfl (by decide +kernel) rfl rfl (Nat.le_of_ble_eq_true rfl) dX8_append_32 (fun H locs hP hD hS => ?_)
    have hP : va_P D vwCl [(a_t, .inr (12, [.ref a_t_now, .ref a_t_tried, .ref a_t_kept, .int t_undos, .ref a_t_saved, .int t_isSaved, .ref a_t_line, .int t_lined, .ref a_t_text, .int (t_length + (1 : Int32)), .int t_at, .int t_order, .ref a_t_told, .int t_fault, .int t_reason, .int t_detail, .int t_index, .int t_answer, .int (0 : Int32), .ref a_t_way, .int t_went, .int t_fell])), (a_t_text, .inl (y 1, 60, .inl t_text))] H := hP
    have hD : va_D A [(a_t, .inr (12, [.ref a_t_now, .ref a_t_tried, .ref a_t_kept, .int t_undos, .ref a_t_saved, .int t_isSaved, .ref a_t_line, .int t_lined, .ref a_t_text, .int (t_length + (1 : Int32)), .int t_at, .int t_order, .ref a_t_told, .int t_fault, .int t_reason, .int t_detail, .int t_index, .int t_answer, .int (0 : Int32), .ref a_t_way, .int t_went, .int t_fell])), (a_t_text, .inl (y 1, 60, .inl t_text))] := hD
    refine lv_iload_n hx hb dX8_append_35 rfl (lv_at hl 1 rfl) ?_
    obtain ⟨g_36, hF⟩ := gi_i hF
    refine va_cast hx hb hK hP hD hS 1 1 rfl rfl g_36 dX8_append_36 (fun H locs hP hD hS => ?_)
    have hP : va_P D vwCl [(a_t, .inr (12, [.ref a_t_now, .ref a_t_tried, .ref a_t_kept, .int t_undos, .ref a_t_saved, .int t_isSaved, .ref a_t_line, .int t_lined, .ref a_t_text, .int (t_length + (1 : Int32)), .int t_at, .int t_order, .ref a_t_told, .int t_fault, .int t_reason, .int t_detail, .int t_index, .int t_answer, .int (0 : Int32), .ref a_t_way, .int t_went, .int t_fell])), (a_t_text, .inl (y 1, 60, .inl (upd t_text t_length.toNatClampNeg (vp_nar .char p1))))] H := hP
    have hD : va_D A [(a_t, .inr (12, [.ref a_t_now, .ref a_t_tried, .ref a_t_kept, .int t_undos, .ref a_t_saved, .int t_isSaved, .ref a_t_line, .int t_lined, .ref a_t_text, .int (t_length + (1 : Int32)), .int t_at, .int t_order, .ref a_t_told, .int t_fault, .int t_reason, .int t_detail, .int t_index, .int t_answer, .int (0 : Int32), .ref a_t_way, .int t_went, .int t_fell])), (a_t_text, .inl (y 1, 60, .inl (upd t_text t_length.toNatClampNeg (vp_nar .char p1))))] := hD
    refine lv_aload_n hx hb dX8_append_37 rfl (lv_at hl 0 rfl) ?_
    refine va_get (D := D) (ci := 12) (v := .int (t_length + (1 : Int32))) (C := RX8) (T := TX8) (N := 22) hx hb hts iX8_append_X8 hown hK hP 0 rfl rfl 9 (by decide) (hts (.fieldLink RX8 167 "SkipArchiveModel" "length" "I") (List.mem_of_getElem? (i := 2) rfl)) (fun _ h9 => h9) rfl dX8_append_38 ?_
    obtain ⟨e0_41, e1_41, e2_41, e3_41⟩ := inj4 hF
    rw [← e0_41, ← e1_41, ← e2_41, ← e3_41] at hQ0
    rw [hQ0]
    exact ret_i hx hb hr hlocks hAe hK hP hD hS [0, 1] rfl rfl dX8_append_41
  · have hF := ift hF c_11
    refine lv_aload_n hx hb dX8_append_14 rfl (lv_at hl 0 rfl) ?_
    refine lv_iconst (v := 1) hx hb dX8_append_15 (by decide) ?_
    obtain ⟨r_16, t_thrown_16, hq_16, hF⟩ := bn2_i hF
    refine cm_Vi (As := [.int (1 : Int32)]) (rest := []) (wr := [(a_t_text, .inl (y 1, 60, .inl t_text))]) ⟨hx, hb, hml, hown, hts⟩ (c_X8_raises l D y fl H.size a_t a_t_now a_t_tried a_t_kept a_t_saved a_t_line a_t_text a_t_told a_t_way t_undos t_isSaved t_lined t_length t_at t_order t_fault t_reason t_detail t_index t_answer (0 : Int32) t_went t_fell (1 : Int32) r_16 t_thrown_16 hq_16) (cwV 1 hts gX8_append_X8_raises rfl rfl rfl (by decide +kernel) ⟨Nat.le_of_ble_eq_true rfl, Nat.le_of_ble_eq_true rfl⟩) hK hP hD hS hA [0] [1] rfl rfl rfl rfl (by decide) rfl rfl rfl hl.1 rfl (Nat.le_of_ble_eq_true rfl) dX8_append_16 ⟨Nat.le_of_ble_eq_true rfl, Nat.le_of_ble_eq_true rfl⟩ (fun H locs hP hD hS => ?_)
    have hP : va_P D vwCl [(a_t_text, .inl (y 1, 60, .inl t_text)), (a_t, .inr (12, [.ref a_t_now, .ref a_t_tried, .ref a_t_kept, .int t_undos, .ref a_t_saved, .int t_isSaved, .ref a_t_line, .int t_lined, .ref a_t_text, .int t_length, .int t_at, .int t_order, .ref a_t_told, .int t_fault, .int t_reason, .int t_detail, .int t_index, .int t_answer, .int t_thrown_16, .ref a_t_way, .int t_went, .int t_fell]))] H := hP
    have hD : va_D A [(a_t_text, .inl (y 1, 60, .inl t_text)), (a_t, .inr (12, [.ref a_t_now, .ref a_t_tried, .ref a_t_kept, .int t_undos, .ref a_t_saved, .int t_isSaved, .ref a_t_line, .int t_lined, .ref a_t_text, .int t_length, .int t_at, .int t_order, .ref a_t_told, .int t_fault, .int t_reason, .int t_detail, .int t_index, .int t_answer, .int t_thrown_16, .ref a_t_way, .int t_went, .int t_fell]))] := hD
    obtain ⟨e0_19, e1_19, e2_19, e3_19⟩ := inj4 hF
    rw [← e0_19, ← e1_19, ← e2_19, ← e3_19] at hQ0
    rw [hQ0]
    exact ret_i hx hb hr hlocks hAe hK hP hD hS [1, 0] rfl rfl dX8_append_19
