def F_X3_size (fl : Nat) (t_size : Int32) : Option (Int32) := some t_size
theorem iX3_size_X3 : ∀ w ∈ u_ws RX3 TX3 6, w ∈ wsX3_size := fun w h => List.mem_cons_of_mem _ (List.mem_append_right _ h)
set_option maxHeartbeats 4000000 in
set_option maxRecDepth 100000 in
theorem c_X3_size (l : Launch) (D : va_G) (y : Nat → ClassId) (fl : Nat) (a_t : Nat) (a_t_keys : Nat) (a_t_weights : Nat) (a_t_towers : Nat) (a_t_coin : Nat) (t_size : Int32) (t_hidden : Int32) (r : Int32) (hF : F_X3_size fl t_size = some r) : Met l yX3_size wsX3_size (rmq 0 0) (rdP D y [(a_t, .inr (7, [.ref a_t_keys, .ref a_t_weights, .ref a_t_towers, .ref a_t_coin, .int t_size, .int t_hidden]))] [.ref a_t]) (QcRead r) 0 0 (fun _ => False) := by
  refine Met.ofW (cc := cX3_size) (maxL := 1) (ret := (some .int)) (by decide) rfl ?_
  intro p e s m args below meth c s₁ B hml hv
  obtain ⟨hav, hP, hK⟩ := hv
  have hx := B.exec
  have hb := B.bytes
  have hr := B.returns
  have hts := atoms_spec (ws := wsX3_size) B.pre
  have hown : s.vm.findClass RX3 = some m.cls := findClass_of_methodNamed B.named
  have hlocks := B.notSynchronized
  refine W_q (R1 := (rmq 0 0)) rfl (fun Q0 hQ0 => ?_)
  unfold F_X3_size at hF
  refine W_entry hav (Nat.le_of_ble_eq_true rfl) (fun ls hl => ?_)
  have hl : lv_has ls 1 [(0, .ref a_t)] := hl
  refine lv_aload_n hx hb dX3_size_0 rfl (lv_at hl 0 rfl) ?_
  refine va_get (D := D) (ci := 7) (v := .int t_size) (C := RX3) (T := TX3) (N := 6) hx hb hts iX3_size_X3 hown hK hP 0 rfl rfl 4 (by decide) (hts (.fieldLink RX3 28 "SkipArchive$Ladder" "size" "I") (List.mem_of_getElem? (i := 1) rfl)) (fun _ h9 => h9) rfl dX3_size_1 ?_
  obtain e0_4 := inj1 hF
  rw [← e0_4] at hQ0
  rw [hQ0]
  exact W.iret (v := t_size) hx hb hr (fun t ht hW => ⟨rfl, ht⟩) (fun _ h => nomatch h) dX3_size_4
def F_X3_coin (fl : Nat) : Option (Unit) := some ()
theorem iX3_coin_X3 : ∀ w ∈ u_ws RX3 TX3 6, w ∈ wsX3_coin := fun w h => List.mem_cons_of_mem _ (List.mem_append_right _ h)
set_option maxHeartbeats 4000000 in
set_option maxRecDepth 100000 in
theorem c_X3_coin (l : Launch) (D : va_G) (y : Nat → ClassId) (fl : Nat) (a_t : Nat) (a_t_keys : Nat) (a_t_weights : Nat) (a_t_towers : Nat) (a_t_coin : Nat) (t_size : Int32) (t_hidden : Int32) (hF : F_X3_coin fl = some ()) : Met l yX3_coin wsX3_coin (rmq 0 0) (rdP D y [(a_t, .inr (7, [.ref a_t_keys, .ref a_t_weights, .ref a_t_towers, .ref a_t_coin, .int t_size, .int t_hidden]))] [.ref a_t]) (va_Sr (fun _ => True) (fun _ => .ref a_t_coin)) 0 0 (fun _ => False) := by
  refine Met.ofW (cc := cX3_coin) (maxL := 1) (ret := (some (.object "SkipArchive$Coin"))) (by decide) rfl ?_
  intro p e s m args below meth c s₁ B hml hv
  obtain ⟨hav, hP, hK⟩ := hv
  have hx := B.exec
  have hb := B.bytes
  have hr := B.returns
  have hts := atoms_spec (ws := wsX3_coin) B.pre
  have hown : s.vm.findClass RX3 = some m.cls := findClass_of_methodNamed B.named
  have hlocks := B.notSynchronized
  refine W_q (R1 := (rmq 0 0)) rfl (fun Q0 hQ0 => ?_)
  unfold F_X3_coin at hF
  refine W_entry hav (Nat.le_of_ble_eq_true rfl) (fun ls hl => ?_)
  have hl : lv_has ls 1 [(0, .ref a_t)] := hl
  refine lv_aload_n hx hb dX3_coin_0 rfl (lv_at hl 0 rfl) ?_
  refine va_get (D := D) (ci := 7) (v := .ref a_t_coin) (C := RX3) (T := TX3) (N := 6) hx hb hts iX3_coin_X3 hown hK hP 0 rfl rfl 3 (by decide) (hts (.fieldLink RX3 24 "SkipArchive$Ladder" "coin" "LSkipArchive$Coin;") (List.mem_of_getElem? (i := 1) rfl)) (fun _ h9 => h9) rfl dX3_coin_1 ?_
  rw [hQ0]
  exact W.aret hx hb hr (Or.inl ⟨_, rfl⟩) (Or.inr ⟨_, rfl⟩) (fun t ht hW => ⟨0, rfl, trivial, ht⟩) (fun _ h => nomatch h) dX3_coin_4
def F_X3_holds (fl : Nat) (t_size : Int32) (p1 : Int32) : Option (Int32) := if p1 < 0 then (some (0 : Int32)) else (if t_size ≤ p1 then (some (0 : Int32)) else (if (24 : Int32) ≤ p1 then (some (0 : Int32)) else (some (1 : Int32))))
theorem iX3_holds_X3 : ∀ w ∈ u_ws RX3 TX3 6, w ∈ wsX3_holds := fun w h => List.mem_cons_of_mem _ (List.mem_append_right _ h)
set_option maxHeartbeats 4000000 in
set_option maxRecDepth 100000 in
theorem c_X3_holds (l : Launch) (D : va_G) (y : Nat → ClassId) (fl : Nat) (a_t : Nat) (a_t_keys : Nat) (a_t_weights : Nat) (a_t_towers : Nat) (a_t_coin : Nat) (t_size : Int32) (t_hidden : Int32) (p1 : Int32) (r : Int32) (hF : F_X3_holds fl t_size p1 = some r) : Met l yX3_holds wsX3_holds (rmq 0 0) (rdP D y [(a_t, .inr (7, [.ref a_t_keys, .ref a_t_weights, .ref a_t_towers, .ref a_t_coin, .int t_size, .int t_hidden]))] [.ref a_t, .int p1]) (QcRead r) 0 0 (fun _ => False) := by
  refine Met.ofW (cc := cX3_holds) (maxL := 2) (ret := (some .boolean)) (by decide) rfl ?_
  intro p e s m args below meth c s₁ B hml hv
  obtain ⟨hav, hP, hK⟩ := hv
  have hx := B.exec
  have hb := B.bytes
  have hr := B.returns
  have hts := atoms_spec (ws := wsX3_holds) B.pre
  have hown : s.vm.findClass RX3 = some m.cls := findClass_of_methodNamed B.named
  have hlocks := B.notSynchronized
  refine W_q (R1 := (rmq 0 0)) rfl (fun Q0 hQ0 => ?_)
  unfold F_X3_holds at hF
  refine W_entry hav (Nat.le_of_ble_eq_true rfl) (fun ls hl => ?_)
  have hl : lv_has ls 2 [(0, .ref a_t), (1, .int p1)] := hl
  refine lv_iload_n hx hb dX3_holds_0 rfl (lv_at hl 1 rfl) ?_
  refine lv_if_lt (tgt := 22) hx hb dX3_holds_1 (by decide) (fun c_1 => ?_) (fun c_1 => ?_)
  · have hF := ift hF c_1
    refine lv_iconst (v := 0) hx hb dX3_holds_22 (by decide) ?_
    obtain e0_23 := inj1 hF
    rw [← e0_23] at hQ0
    rw [hQ0]
    exact W.zret (v := (0 : Int32)) hx hb hr (by decide +kernel) (fun t ht hW => ⟨rfl, ht⟩) (fun _ h => nomatch h) dX3_holds_23
  · have hF := iff_ hF c_1
    refine lv_iload_n hx hb dX3_holds_4 rfl (lv_at hl 1 rfl) ?_
    refine lv_aload_n hx hb dX3_holds_5 rfl (lv_at hl 0 rfl) ?_
    refine va_get (D := D) (ci := 7) (v := .int t_size) (C := RX3) (T := TX3) (N := 6) hx hb hts iX3_holds_X3 hown hK hP 0 rfl rfl 4 (by decide) (hts (.fieldLink RX3 28 "SkipArchive$Ladder" "size" "I") (List.mem_of_getElem? (i := 1) rfl)) (fun _ h9 => h9) rfl dX3_holds_6 ?_
    refine lv_icmp_ge (tgt := 22) hx hb dX3_holds_9 (by decide) (fun c_9 => ?_) (fun c_9 => ?_)
    · have hF := ift hF c_9
      refine lv_iconst (v := 0) hx hb dX3_holds_22 (by decide) ?_
      obtain e0_23 := inj1 hF
      rw [← e0_23] at hQ0
      rw [hQ0]
      exact W.zret (v := (0 : Int32)) hx hb hr (by decide +kernel) (fun t ht hW => ⟨rfl, ht⟩) (fun _ h => nomatch h) dX3_holds_23
    · have hF := iff_ hF c_9
      refine lv_iload_n hx hb dX3_holds_12 rfl (lv_at hl 1 rfl) ?_
      refine lv_bipush (v := 24) hx hb dX3_holds_13 (by decide) ?_
      refine lv_icmp_ge (tgt := 22) hx hb dX3_holds_15 (by decide) (fun c_15 => ?_) (fun c_15 => ?_)
      · have hF := ift hF c_15
        refine lv_iconst (v := 0) hx hb dX3_holds_22 (by decide) ?_
        obtain e0_23 := inj1 hF
        rw [← e0_23] at hQ0
        rw [hQ0]
        exact W.zret (v := (0 : Int32)) hx hb hr (by decide +kernel) (fun t ht hW => ⟨rfl, ht⟩) (fun _ h => nomatch h) dX3_holds_23
      · have hF := iff_ hF c_15
        refine lv_iconst (v := 1) hx hb dX3_holds_18 (by decide) ?_
        refine lv_goto (tgt := 23) hx hb dX3_holds_19 (by decide) ?_
        obtain e0_23 := inj1 hF
        rw [← e0_23] at hQ0
        rw [hQ0]
        exact W.zret (v := (1 : Int32)) hx hb hr (by decide +kernel) (fun t ht hW => ⟨rfl, ht⟩) (fun _ h => nomatch h) dX3_holds_23
def F_X3_keyOf (fl : Nat) (t_size : Int32) (t_keys : Nat → Int32) (p1 : Int32) : Option (Int32) := bn (F_X3_holds fl t_size p1) fun r_2 => if r_2 = 0 then (some (-1 : Int32)) else (gi p1 24 (some (t_keys p1.toNatClampNeg)))
theorem iX3_keyOf_X3 : ∀ w ∈ u_ws RX3 TX3 6, w ∈ wsX3_keyOf := fun w h => List.mem_cons_of_mem _ (List.mem_append_left _ (List.mem_append_right _ h))
set_option maxHeartbeats 4000000 in
set_option maxRecDepth 100000 in
theorem c_X3_keyOf (l : Launch) (D : va_G) (y : Nat → ClassId) (fl : Nat) (a_t : Nat) (a_t_keys : Nat) (a_t_weights : Nat) (a_t_towers : Nat) (a_t_coin : Nat) (t_size : Int32) (t_hidden : Int32) (t_keys : Nat → Int32) (p1 : Int32) (r : Int32) (hF : F_X3_keyOf fl t_size t_keys p1 = some r) : Met l yX3_keyOf wsX3_keyOf (rmq 1 21) (rdP D y [(a_t, .inr (7, [.ref a_t_keys, .ref a_t_weights, .ref a_t_towers, .ref a_t_coin, .int t_size, .int t_hidden])), (a_t_keys, .inl (y 0, 24, .inl t_keys))] [.ref a_t, .int p1]) (QcRead r) 0 0 (fun _ => False) := by
  refine Met.ofW (cc := cX3_keyOf) (maxL := 2) (ret := (some .int)) (by decide) rfl ?_
  intro p e s m args below meth c s₁ B hml hv
  obtain ⟨hav, hP, hK⟩ := hv
  have hx := B.exec
  have hb := B.bytes
  have hr := B.returns
  have hts := atoms_spec (ws := wsX3_keyOf) B.pre
  have hown : s.vm.findClass RX3 = some m.cls := findClass_of_methodNamed B.named
  have hlocks := B.notSynchronized
  refine W_q (R1 := (rmq 1 21)) rfl (fun Q0 hQ0 => ?_)
  unfold F_X3_keyOf at hF
  refine W_entry hav (Nat.le_of_ble_eq_true rfl) (fun ls hl => ?_)
  have hl : lv_has ls 2 [(0, .ref a_t), (1, .int p1)] := hl
  refine lv_aload_n hx hb dX3_keyOf_0 rfl (lv_at hl 0 rfl) ?_
  refine lv_iload_n hx hb dX3_keyOf_1 rfl (lv_at hl 1 rfl) ?_
  obtain ⟨r_2, hq_2, hF⟩ := bn_i hF
  refine cr_V (As := [.int p1]) (rest := []) ⟨hx, hb, hml, hown, hts⟩ (c_X3_holds l D y fl a_t a_t_keys a_t_weights a_t_towers a_t_coin t_size t_hidden p1 r_2 hq_2) (cwV 1 hts gX3_keyOf_X3_holds rfl rfl rfl (by decide +kernel) ⟨Nat.le_of_ble_eq_true rfl, Nat.le_of_ble_eq_true rfl⟩) hK hP [0] rfl rfl rfl rfl hl.1 rfl (Nat.le_of_ble_eq_true rfl) dX3_keyOf_2 ⟨Nat.le_of_ble_eq_true rfl, Nat.le_of_ble_eq_true rfl⟩ ?_
  refine lv_if_eq (tgt := 17) hx hb dX3_keyOf_5 (by decide) (fun c_5 => ?_) (fun c_5 => ?_)
  · have hF := ift hF c_5
    refine lv_iconst (v := -1) hx hb dX3_keyOf_17 (by decide) ?_
    obtain e0_18 := inj1 hF
    rw [← e0_18] at hQ0
    rw [hQ0]
    exact W.iret (v := (-1 : Int32)) hx hb hr (fun t ht hW => ⟨rfl, ht⟩) (fun _ h => nomatch h) dX3_keyOf_18
  · have hF := iff_ hF c_5
    refine lv_aload_n hx hb dX3_keyOf_8 rfl (lv_at hl 0 rfl) ?_
    refine va_get (D := D) (ci := 7) (v := .ref a_t_keys) (C := RX3) (T := TX3) (N := 6) hx hb hts iX3_keyOf_X3 hown hK hP 0 rfl rfl 0 (by decide) (hts (.fieldLink RX3 9 "SkipArchive$Ladder" "keys" "[I") (List.mem_of_getElem? (i := 1) rfl)) (fun _ h9 => h9) rfl dX3_keyOf_9 ?_
    refine lv_iload_n hx hb dX3_keyOf_12 rfl (lv_at hl 1 rfl) ?_
    obtain ⟨g_13, hF⟩ := gi_i hF
    refine va_iald hx hb hK hP 1 0 rfl rfl g_13 dX3_keyOf_13 ?_
    refine lv_goto (tgt := 18) hx hb dX3_keyOf_14 (by decide) ?_
    obtain e0_18 := inj1 hF
    rw [← e0_18] at hQ0
    rw [hQ0]
    exact W.iret (v := t_keys p1.toNatClampNeg) hx hb hr (fun t ht hW => ⟨rfl, ht⟩) (fun _ h => nomatch h) dX3_keyOf_18
def F_X3_weightOf (fl : Nat) (t_size : Int32) (t_weights : Nat → Int32) (p1 : Int32) : Option (Int32) := bn (F_X3_holds fl t_size p1) fun r_2 => if r_2 = 0 then (some (0 : Int32)) else (gi p1 24 (some (t_weights p1.toNatClampNeg)))
theorem iX3_weightOf_X3 : ∀ w ∈ u_ws RX3 TX3 6, w ∈ wsX3_weightOf := fun w h => List.mem_cons_of_mem _ (List.mem_append_left _ (List.mem_append_right _ h))
set_option maxHeartbeats 4000000 in
set_option maxRecDepth 100000 in
theorem c_X3_weightOf (l : Launch) (D : va_G) (y : Nat → ClassId) (fl : Nat) (a_t : Nat) (a_t_keys : Nat) (a_t_weights : Nat) (a_t_towers : Nat) (a_t_coin : Nat) (t_size : Int32) (t_hidden : Int32) (t_weights : Nat → Int32) (p1 : Int32) (r : Int32) (hF : F_X3_weightOf fl t_size t_weights p1 = some r) : Met l yX3_weightOf wsX3_weightOf (rmq 1 21) (rdP D y [(a_t, .inr (7, [.ref a_t_keys, .ref a_t_weights, .ref a_t_towers, .ref a_t_coin, .int t_size, .int t_hidden])), (a_t_weights, .inl (y 0, 24, .inl t_weights))] [.ref a_t, .int p1]) (QcRead r) 0 0 (fun _ => False) := by
  refine Met.ofW (cc := cX3_weightOf) (maxL := 2) (ret := (some .int)) (by decide) rfl ?_
  intro p e s m args below meth c s₁ B hml hv
  obtain ⟨hav, hP, hK⟩ := hv
  have hx := B.exec
  have hb := B.bytes
  have hr := B.returns
  have hts := atoms_spec (ws := wsX3_weightOf) B.pre
  have hown : s.vm.findClass RX3 = some m.cls := findClass_of_methodNamed B.named
  have hlocks := B.notSynchronized
  refine W_q (R1 := (rmq 1 21)) rfl (fun Q0 hQ0 => ?_)
  unfold F_X3_weightOf at hF
  refine W_entry hav (Nat.le_of_ble_eq_true rfl) (fun ls hl => ?_)
  have hl : lv_has ls 2 [(0, .ref a_t), (1, .int p1)] := hl
  refine lv_aload_n hx hb dX3_weightOf_0 rfl (lv_at hl 0 rfl) ?_
  refine lv_iload_n hx hb dX3_weightOf_1 rfl (lv_at hl 1 rfl) ?_
  obtain ⟨r_2, hq_2, hF⟩ := bn_i hF
  refine cr_V (As := [.int p1]) (rest := []) ⟨hx, hb, hml, hown, hts⟩ (c_X3_holds l D y fl a_t a_t_keys a_t_weights a_t_towers a_t_coin t_size t_hidden p1 r_2 hq_2) (cwV 1 hts gX3_weightOf_X3_holds rfl rfl rfl (by decide +kernel) ⟨Nat.le_of_ble_eq_true rfl, Nat.le_of_ble_eq_true rfl⟩) hK hP [0] rfl rfl rfl rfl hl.1 rfl (Nat.le_of_ble_eq_true rfl) dX3_weightOf_2 ⟨Nat.le_of_ble_eq_true rfl, Nat.le_of_ble_eq_true rfl⟩ ?_
  refine lv_if_eq (tgt := 17) hx hb dX3_weightOf_5 (by decide) (fun c_5 => ?_) (fun c_5 => ?_)
  · have hF := ift hF c_5
    refine lv_iconst (v := 0) hx hb dX3_weightOf_17 (by decide) ?_
    obtain e0_18 := inj1 hF
    rw [← e0_18] at hQ0
    rw [hQ0]
    exact W.iret (v := (0 : Int32)) hx hb hr (fun t ht hW => ⟨rfl, ht⟩) (fun _ h => nomatch h) dX3_weightOf_18
  · have hF := iff_ hF c_5
    refine lv_aload_n hx hb dX3_weightOf_8 rfl (lv_at hl 0 rfl) ?_
    refine va_get (D := D) (ci := 7) (v := .ref a_t_weights) (C := RX3) (T := TX3) (N := 6) hx hb hts iX3_weightOf_X3 hown hK hP 0 rfl rfl 1 (by decide) (hts (.fieldLink RX3 15 "SkipArchive$Ladder" "weights" "[I") (List.mem_of_getElem? (i := 1) rfl)) (fun _ h9 => h9) rfl dX3_weightOf_9 ?_
    refine lv_iload_n hx hb dX3_weightOf_12 rfl (lv_at hl 1 rfl) ?_
    obtain ⟨g_13, hF⟩ := gi_i hF
    refine va_iald hx hb hK hP 1 0 rfl rfl g_13 dX3_weightOf_13 ?_
    refine lv_goto (tgt := 18) hx hb dX3_weightOf_14 (by decide) ?_
    obtain e0_18 := inj1 hF
    rw [← e0_18] at hQ0
    rw [hQ0]
    exact W.iret (v := t_weights p1.toNatClampNeg) hx hb hr (fun t ht hW => ⟨rfl, ht⟩) (fun _ h => nomatch h) dX3_weightOf_18
def F_X3_rungsOf (fl : Nat) (t_size : Int32) (t_towers : Nat → Int32) (p1 : Int32) : Option (Int32) := bn (F_X3_holds fl t_size p1) fun r_2 => if r_2 = 0 then (some (0 : Int32)) else (gi p1 24 (some (t_towers p1.toNatClampNeg)))
theorem iX3_rungsOf_X3 : ∀ w ∈ u_ws RX3 TX3 6, w ∈ wsX3_rungsOf := fun w h => List.mem_cons_of_mem _ (List.mem_append_left _ (List.mem_append_right _ h))
set_option maxHeartbeats 4000000 in
set_option maxRecDepth 100000 in
theorem c_X3_rungsOf (l : Launch) (D : va_G) (y : Nat → ClassId) (fl : Nat) (a_t : Nat) (a_t_keys : Nat) (a_t_weights : Nat) (a_t_towers : Nat) (a_t_coin : Nat) (t_size : Int32) (t_hidden : Int32) (t_towers : Nat → Int32) (p1 : Int32) (r : Int32) (hF : F_X3_rungsOf fl t_size t_towers p1 = some r) : Met l yX3_rungsOf wsX3_rungsOf (rmq 1 21) (rdP D y [(a_t, .inr (7, [.ref a_t_keys, .ref a_t_weights, .ref a_t_towers, .ref a_t_coin, .int t_size, .int t_hidden])), (a_t_towers, .inl (y 0, 24, .inl t_towers))] [.ref a_t, .int p1]) (QcRead r) 0 0 (fun _ => False) := by
  refine Met.ofW (cc := cX3_rungsOf) (maxL := 2) (ret := (some .int)) (by decide) rfl ?_
  intro p e s m args below meth c s₁ B hml hv
  obtain ⟨hav, hP, hK⟩ := hv
  have hx := B.exec
  have hb := B.bytes
  have hr := B.returns
  have hts := atoms_spec (ws := wsX3_rungsOf) B.pre
  have hown : s.vm.findClass RX3 = some m.cls := findClass_of_methodNamed B.named
  have hlocks := B.notSynchronized
  refine W_q (R1 := (rmq 1 21)) rfl (fun Q0 hQ0 => ?_)
  unfold F_X3_rungsOf at hF
  refine W_entry hav (Nat.le_of_ble_eq_true rfl) (fun ls hl => ?_)
  have hl : lv_has ls 2 [(0, .ref a_t), (1, .int p1)] := hl
  refine lv_aload_n hx hb dX3_rungsOf_0 rfl (lv_at hl 0 rfl) ?_
  refine lv_iload_n hx hb dX3_rungsOf_1 rfl (lv_at hl 1 rfl) ?_
  obtain ⟨r_2, hq_2, hF⟩ := bn_i hF
  refine cr_V (As := [.int p1]) (rest := []) ⟨hx, hb, hml, hown, hts⟩ (c_X3_holds l D y fl a_t a_t_keys a_t_weights a_t_towers a_t_coin t_size t_hidden p1 r_2 hq_2) (cwV 1 hts gX3_rungsOf_X3_holds rfl rfl rfl (by decide +kernel) ⟨Nat.le_of_ble_eq_true rfl, Nat.le_of_ble_eq_true rfl⟩) hK hP [0] rfl rfl rfl rfl hl.1 rfl (Nat.le_of_ble_eq_true rfl) dX3_rungsOf_2 ⟨Nat.le_of_ble_eq_true rfl, Nat.le_of_ble_eq_true rfl⟩ ?_
  refine lv_if_eq (tgt := 17) hx hb dX3_rungsOf_5 (by decide) (fun c_5 => ?_) (fun c_5 => ?_)
  · have hF := ift hF c_5
    refine lv_iconst (v := 0) hx hb dX3_rungsOf_17 (by decide) ?_
    obtain e0_18 := inj1 hF
    rw [← e0_18] at hQ0
    rw [hQ0]
    exact W.iret (v := (0 : Int32)) hx hb hr (fun t ht hW => ⟨rfl, ht⟩) (fun _ h => nomatch h) dX3_rungsOf_18
  · have hF := iff_ hF c_5
    refine lv_aload_n hx hb dX3_rungsOf_8 rfl (lv_at hl 0 rfl) ?_
    refine va_get (D := D) (ci := 7) (v := .ref a_t_towers) (C := RX3) (T := TX3) (N := 6) hx hb hts iX3_rungsOf_X3 hown hK hP 0 rfl rfl 2 (by decide) (hts (.fieldLink RX3 18 "SkipArchive$Ladder" "towers" "[I") (List.mem_of_getElem? (i := 1) rfl)) (fun _ h9 => h9) rfl dX3_rungsOf_9 ?_
    refine lv_iload_n hx hb dX3_rungsOf_12 rfl (lv_at hl 1 rfl) ?_
    obtain ⟨g_13, hF⟩ := gi_i hF
    refine va_iald hx hb hK hP 1 0 rfl rfl g_13 dX3_rungsOf_13 ?_
    refine lv_goto (tgt := 18) hx hb dX3_rungsOf_14 (by decide) ?_
    obtain e0_18 := inj1 hF
    rw [← e0_18] at hQ0
    rw [hQ0]
    exact W.iret (v := t_towers p1.toNatClampNeg) hx hb hr (fun t ht hW => ⟨rfl, ht⟩) (fun _ h => nomatch h) dX3_rungsOf_18
def F_X3_hasRung (fl : Nat) (t_size : Int32) (t_towers : Nat → Int32) (p1 : Int32) (p2 : Int32) : Option (Int32) := bn (F_X3_holds fl t_size p1) fun r_2 => if r_2 = 0 then (some (0 : Int32)) else (gi p1 24 (if (t_towers p1.toNatClampNeg) ≤ p2 then (some (0 : Int32)) else (some (1 : Int32))))
theorem iX3_hasRung_X3 : ∀ w ∈ u_ws RX3 TX3 6, w ∈ wsX3_hasRung := fun w h => List.mem_cons_of_mem _ (List.mem_append_left _ (List.mem_append_right _ h))
set_option maxHeartbeats 4000000 in
set_option maxRecDepth 100000 in
theorem c_X3_hasRung (l : Launch) (D : va_G) (y : Nat → ClassId) (fl : Nat) (a_t : Nat) (a_t_keys : Nat) (a_t_weights : Nat) (a_t_towers : Nat) (a_t_coin : Nat) (t_size : Int32) (t_hidden : Int32) (t_towers : Nat → Int32) (p1 : Int32) (p2 : Int32) (r : Int32) (hF : F_X3_hasRung fl t_size t_towers p1 p2 = some r) : Met l yX3_hasRung wsX3_hasRung (rmq 1 21) (rdP D y [(a_t, .inr (7, [.ref a_t_keys, .ref a_t_weights, .ref a_t_towers, .ref a_t_coin, .int t_size, .int t_hidden])), (a_t_towers, .inl (y 0, 24, .inl t_towers))] [.ref a_t, .int p1, .int p2]) (QcRead r) 0 0 (fun _ => False) := by
  refine Met.ofW (cc := cX3_hasRung) (maxL := 3) (ret := (some .boolean)) (by decide) rfl ?_
  intro p e s m args below meth c s₁ B hml hv
  obtain ⟨hav, hP, hK⟩ := hv
  have hx := B.exec
  have hb := B.bytes
  have hr := B.returns
  have hts := atoms_spec (ws := wsX3_hasRung) B.pre
  have hown : s.vm.findClass RX3 = some m.cls := findClass_of_methodNamed B.named
  have hlocks := B.notSynchronized
  refine W_q (R1 := (rmq 1 21)) rfl (fun Q0 hQ0 => ?_)
  unfold F_X3_hasRung at hF
  refine W_entry hav (Nat.le_of_ble_eq_true rfl) (fun ls hl => ?_)
  have hl : lv_has ls 3 [(0, .ref a_t), (1, .int p1), (2, .int p2)] := hl
  refine lv_aload_n hx hb dX3_hasRung_0 rfl (lv_at hl 0 rfl) ?_
  refine lv_iload_n hx hb dX3_hasRung_1 rfl (lv_at hl 1 rfl) ?_
  obtain ⟨r_2, hq_2, hF⟩ := bn_i hF
  refine cr_V (As := [.int p1]) (rest := []) ⟨hx, hb, hml, hown, hts⟩ (c_X3_holds l D y fl a_t a_t_keys a_t_weights a_t_towers a_t_coin t_size t_hidden p1 r_2 hq_2) (cwV 1 hts gX3_hasRung_X3_holds rfl rfl rfl (by decide +kernel) ⟨Nat.le_of_ble_eq_true rfl, Nat.le_of_ble_eq_true rfl⟩) hK hP [0] rfl rfl rfl rfl hl.1 rfl (Nat.le_of_ble_eq_true rfl) dX3_hasRung_2 ⟨Nat.le_of_ble_eq_true rfl, Nat.le_of_ble_eq_true rfl⟩ ?_
  refine lv_if_eq (tgt := 22) hx hb dX3_hasRung_5 (by decide) (fun c_5 => ?_) (fun c_5 => ?_)
  · have hF := ift hF c_5
    refine lv_iconst (v := 0) hx hb dX3_hasRung_22 (by decide) ?_
    obtain e0_23 := inj1 hF
    rw [← e0_23] at hQ0
    rw [hQ0]
    exact W.zret (v := (0 : Int32)) hx hb hr (by decide +kernel) (fun t ht hW => ⟨rfl, ht⟩) (fun _ h => nomatch h) dX3_hasRung_23
  · have hF := iff_ hF c_5
    refine lv_aload_n hx hb dX3_hasRung_8 rfl (lv_at hl 0 rfl) ?_
    refine va_get (D := D) (ci := 7) (v := .ref a_t_towers) (C := RX3) (T := TX3) (N := 6) hx hb hts iX3_hasRung_X3 hown hK hP 0 rfl rfl 2 (by decide) (hts (.fieldLink RX3 18 "SkipArchive$Ladder" "towers" "[I") (List.mem_of_getElem? (i := 1) rfl)) (fun _ h9 => h9) rfl dX3_hasRung_9 ?_
    refine lv_iload_n hx hb dX3_hasRung_12 rfl (lv_at hl 1 rfl) ?_
    obtain ⟨g_13, hF⟩ := gi_i hF
    refine va_iald hx hb hK hP 1 0 rfl rfl g_13 dX3_hasRung_13 ?_
    refine lv_iload_n hx hb dX3_hasRung_14 rfl (lv_at hl 2 rfl) ?_
    refine lv_icmp_le (tgt := 22) hx hb dX3_hasRung_15 (by decide) (fun c_15 => ?_) (fun c_15 => ?_)
    · have hF := ift hF c_15
      refine lv_iconst (v := 0) hx hb dX3_hasRung_22 (by decide) ?_
      obtain e0_23 := inj1 hF
      rw [← e0_23] at hQ0
      rw [hQ0]
      exact W.zret (v := (0 : Int32)) hx hb hr (by decide +kernel) (fun t ht hW => ⟨rfl, ht⟩) (fun _ h => nomatch h) dX3_hasRung_23
    · have hF := iff_ hF c_15
      refine lv_iconst (v := 1) hx hb dX3_hasRung_18 (by decide) ?_
      refine lv_goto (tgt := 23) hx hb dX3_hasRung_19 (by decide) ?_
      obtain e0_23 := inj1 hF
      rw [← e0_23] at hQ0
      rw [hQ0]
      exact W.zret (v := (1 : Int32)) hx hb hr (by decide +kernel) (fun t ht hW => ⟨rfl, ht⟩) (fun _ h => nomatch h) dX3_hasRung_23
def F_X3_hasLowerKey (fl : Nat) (t_size : Int32) (t_keys : Nat → Int32) (p1 : Int32) (p2 : Int32) : Option (Int32) := bn (F_X3_holds fl t_size p1) fun r_2 => if r_2 = 0 then (some (0 : Int32)) else (gi p1 24 (if p2 ≤ (t_keys p1.toNatClampNeg) then (some (0 : Int32)) else (some (1 : Int32))))
theorem iX3_hasLowerKey_X3 : ∀ w ∈ u_ws RX3 TX3 6, w ∈ wsX3_hasLowerKey := fun w h => List.mem_cons_of_mem _ (List.mem_append_left _ (List.mem_append_right _ h))
set_option maxHeartbeats 4000000 in
set_option maxRecDepth 100000 in
theorem c_X3_hasLowerKey (l : Launch) (D : va_G) (y : Nat → ClassId) (fl : Nat) (a_t : Nat) (a_t_keys : Nat) (a_t_weights : Nat) (a_t_towers : Nat) (a_t_coin : Nat) (t_size : Int32) (t_hidden : Int32) (t_keys : Nat → Int32) (p1 : Int32) (p2 : Int32) (r : Int32) (hF : F_X3_hasLowerKey fl t_size t_keys p1 p2 = some r) : Met l yX3_hasLowerKey wsX3_hasLowerKey (rmq 1 21) (rdP D y [(a_t, .inr (7, [.ref a_t_keys, .ref a_t_weights, .ref a_t_towers, .ref a_t_coin, .int t_size, .int t_hidden])), (a_t_keys, .inl (y 0, 24, .inl t_keys))] [.ref a_t, .int p1, .int p2]) (QcRead r) 0 0 (fun _ => False) := by
  refine Met.ofW (cc := cX3_hasLowerKey) (maxL := 3) (ret := (some .boolean)) (by decide) rfl ?_
  intro p e s m args below meth c s₁ B hml hv
  obtain ⟨hav, hP, hK⟩ := hv
  have hx := B.exec
  have hb := B.bytes
  have hr := B.returns
  have hts := atoms_spec (ws := wsX3_hasLowerKey) B.pre
  have hown : s.vm.findClass RX3 = some m.cls := findClass_of_methodNamed B.named
  have hlocks := B.notSynchronized
  refine W_q (R1 := (rmq 1 21)) rfl (fun Q0 hQ0 => ?_)
  unfold F_X3_hasLowerKey at hF
  refine W_entry hav (Nat.le_of_ble_eq_true rfl) (fun ls hl => ?_)
  have hl : lv_has ls 3 [(0, .ref a_t), (1, .int p1), (2, .int p2)] := hl
  refine lv_aload_n hx hb dX3_hasLowerKey_0 rfl (lv_at hl 0 rfl) ?_
  refine lv_iload_n hx hb dX3_hasLowerKey_1 rfl (lv_at hl 1 rfl) ?_
  obtain ⟨r_2, hq_2, hF⟩ := bn_i hF
  refine cr_V (As := [.int p1]) (rest := []) ⟨hx, hb, hml, hown, hts⟩ (c_X3_holds l D y fl a_t a_t_keys a_t_weights a_t_towers a_t_coin t_size t_hidden p1 r_2 hq_2) (cwV 1 hts gX3_hasLowerKey_X3_holds rfl rfl rfl (by decide +kernel) ⟨Nat.le_of_ble_eq_true rfl, Nat.le_of_ble_eq_true rfl⟩) hK hP [0] rfl rfl rfl rfl hl.1 rfl (Nat.le_of_ble_eq_true rfl) dX3_hasLowerKey_2 ⟨Nat.le_of_ble_eq_true rfl, Nat.le_of_ble_eq_true rfl⟩ ?_
  refine lv_if_eq (tgt := 22) hx hb dX3_hasLowerKey_5 (by decide) (fun c_5 => ?_) (fun c_5 => ?_)
  · have hF := ift hF c_5
    refine lv_iconst (v := 0) hx hb dX3_hasLowerKey_22 (by decide) ?_
    obtain e0_23 := inj1 hF
    rw [← e0_23] at hQ0
    rw [hQ0]
    exact W.zret (v := (0 : Int32)) hx hb hr (by decide +kernel) (fun t ht hW => ⟨rfl, ht⟩) (fun _ h => nomatch h) dX3_hasLowerKey_23
  · have hF := iff_ hF c_5
    refine lv_aload_n hx hb dX3_hasLowerKey_8 rfl (lv_at hl 0 rfl) ?_
    refine va_get (D := D) (ci := 7) (v := .ref a_t_keys) (C := RX3) (T := TX3) (N := 6) hx hb hts iX3_hasLowerKey_X3 hown hK hP 0 rfl rfl 0 (by decide) (hts (.fieldLink RX3 9 "SkipArchive$Ladder" "keys" "[I") (List.mem_of_getElem? (i := 1) rfl)) (fun _ h9 => h9) rfl dX3_hasLowerKey_9 ?_
    refine lv_iload_n hx hb dX3_hasLowerKey_12 rfl (lv_at hl 1 rfl) ?_
    obtain ⟨g_13, hF⟩ := gi_i hF
    refine va_iald hx hb hK hP 1 0 rfl rfl g_13 dX3_hasLowerKey_13 ?_
    refine lv_iload_n hx hb dX3_hasLowerKey_14 rfl (lv_at hl 2 rfl) ?_
    refine lv_icmp_ge (tgt := 22) hx hb dX3_hasLowerKey_15 (by decide) (fun c_15 => ?_) (fun c_15 => ?_)
    · have hF := ift hF c_15
      refine lv_iconst (v := 0) hx hb dX3_hasLowerKey_22 (by decide) ?_
      obtain e0_23 := inj1 hF
      rw [← e0_23] at hQ0
      rw [hQ0]
      exact W.zret (v := (0 : Int32)) hx hb hr (by decide +kernel) (fun t ht hW => ⟨rfl, ht⟩) (fun _ h => nomatch h) dX3_hasLowerKey_23
    · have hF := iff_ hF c_15
      refine lv_iconst (v := 1) hx hb dX3_hasLowerKey_18 (by decide) ?_
      refine lv_goto (tgt := 23) hx hb dX3_hasLowerKey_19 (by decide) ?_
      obtain e0_23 := inj1 hF
      rw [← e0_23] at hQ0
      rw [hQ0]
      exact W.zret (v := (1 : Int32)) hx hb hr (by decide +kernel) (fun t ht hW => ⟨rfl, ht⟩) (fun _ h => nomatch h) dX3_hasLowerKey_23
def F_X3_lowerKeys_2 (fl : Nat) (t_size : Int32) (t_keys : Nat → Int32) : Nat → Int32 → Int32 → Option (Int32)
  | 0, _, _ => none
  | n + 1, x1, x2 => if t_size ≤ x2 then (some x2) else (if (24 : Int32) ≤ x2 then (some x2) else (gi x2 24 (if x1 ≤ (t_keys x2.toNatClampNeg) then (some x2) else (F_X3_lowerKeys_2 fl t_size t_keys n x1 (x2 + (1 : Int32))))))
def F_X3_lowerKeys (fl : Nat) (t_size : Int32) (t_keys : Nat → Int32) (p1 : Int32) : Option (Int32) := F_X3_lowerKeys_2 fl t_size t_keys fl p1 (0 : Int32)
theorem iX3_lowerKeys_X3 : ∀ w ∈ u_ws RX3 TX3 6, w ∈ wsX3_lowerKeys := fun w h => List.mem_cons_of_mem _ (List.mem_append_left _ (List.mem_append_right _ h))
set_option maxHeartbeats 4000000 in
set_option maxRecDepth 100000 in
theorem c_X3_lowerKeys (l : Launch) (D : va_G) (y : Nat → ClassId) (fl : Nat) (a_t : Nat) (a_t_keys : Nat) (a_t_weights : Nat) (a_t_towers : Nat) (a_t_coin : Nat) (t_size : Int32) (t_hidden : Int32) (t_keys : Nat → Int32) (p1 : Int32) (r : Int32) (hF : F_X3_lowerKeys fl t_size t_keys p1 = some r) : Met l yX3_lowerKeys wsX3_lowerKeys (rmq 0 0) (rdP D y [(a_t, .inr (7, [.ref a_t_keys, .ref a_t_weights, .ref a_t_towers, .ref a_t_coin, .int t_size, .int t_hidden])), (a_t_keys, .inl (y 0, 24, .inl t_keys))] [.ref a_t, .int p1]) (QcRead r) 0 0 (fun _ => False) := by
  refine Met.ofW (cc := cX3_lowerKeys) (maxL := 3) (ret := (some .int)) (by decide) rfl ?_
  intro p e s m args below meth c s₁ B hml hv
  obtain ⟨hav, hP, hK⟩ := hv
  have hx := B.exec
  have hb := B.bytes
  have hr := B.returns
  have hts := atoms_spec (ws := wsX3_lowerKeys) B.pre
  have hown : s.vm.findClass RX3 = some m.cls := findClass_of_methodNamed B.named
  have hlocks := B.notSynchronized
  refine W_q (R1 := (rmq 0 0)) rfl (fun Q0 hQ0 => ?_)
  unfold F_X3_lowerKeys at hF
  have k_2 : ∀ (n : Nat) (x1 : Int32) (x2 : Int32), F_X3_lowerKeys_2 fl t_size t_keys n x1 x2 = some r → ∀ (ls : Array Slot), lv_has ls 3 [(0, .ref a_t), (1, .int x1), (2, .int x2)] → W p l e (rmq 0 0) s m args below meth c s.heap [] 0 0 Q0 (F0 m 2 ls []) := by
    intro n
    induction n with
    | zero => intro x1 x2 hF; rw [F_X3_lowerKeys_2] at hF; cases hF
    | succ n ih =>
      intro x1 x2 hF ls hl
      rw [F_X3_lowerKeys_2] at hF
      refine lv_iload_n hx hb dX3_lowerKeys_2 rfl (lv_at hl 2 rfl) ?_
      refine lv_aload_n hx hb dX3_lowerKeys_3 rfl (lv_at hl 0 rfl) ?_
      refine va_get (D := D) (ci := 7) (v := .int t_size) (C := RX3) (T := TX3) (N := 6) hx hb hts iX3_lowerKeys_X3 hown hK hP 0 rfl rfl 4 (by decide) (hts (.fieldLink RX3 28 "SkipArchive$Ladder" "size" "I") (List.mem_of_getElem? (i := 1) rfl)) (fun _ h9 => h9) rfl dX3_lowerKeys_4 ?_
      refine lv_icmp_ge (tgt := 32) hx hb dX3_lowerKeys_7 (by decide) (fun c_7 => ?_) (fun c_7 => ?_)
      · have hF := ift hF c_7
        refine lv_iload_n hx hb dX3_lowerKeys_32 rfl (lv_at hl 2 rfl) ?_
        obtain e0_33 := inj1 hF
        rw [← e0_33] at hQ0
        rw [hQ0]
        exact W.iret (v := x2) hx hb hr (fun t ht hW => ⟨rfl, ht⟩) (fun _ h => nomatch h) dX3_lowerKeys_33
      · have hF := iff_ hF c_7
        refine lv_iload_n hx hb dX3_lowerKeys_10 rfl (lv_at hl 2 rfl) ?_
        refine lv_bipush (v := 24) hx hb dX3_lowerKeys_11 (by decide) ?_
        refine lv_icmp_ge (tgt := 32) hx hb dX3_lowerKeys_13 (by decide) (fun c_13 => ?_) (fun c_13 => ?_)
        · have hF := ift hF c_13
          refine lv_iload_n hx hb dX3_lowerKeys_32 rfl (lv_at hl 2 rfl) ?_
          obtain e0_33 := inj1 hF
          rw [← e0_33] at hQ0
          rw [hQ0]
          exact W.iret (v := x2) hx hb hr (fun t ht hW => ⟨rfl, ht⟩) (fun _ h => nomatch h) dX3_lowerKeys_33
        · have hF := iff_ hF c_13
          refine lv_aload_n hx hb dX3_lowerKeys_16 rfl (lv_at hl 0 rfl) ?_
          refine va_get (D := D) (ci := 7) (v := .ref a_t_keys) (C := RX3) (T := TX3) (N := 6) hx hb hts iX3_lowerKeys_X3 hown hK hP 0 rfl rfl 0 (by decide) (hts (.fieldLink RX3 9 "SkipArchive$Ladder" "keys" "[I") (List.mem_of_getElem? (i := 2) rfl)) (fun _ h9 => h9) rfl dX3_lowerKeys_17 ?_
          refine lv_iload_n hx hb dX3_lowerKeys_20 rfl (lv_at hl 2 rfl) ?_
          obtain ⟨g_21, hF⟩ := gi_i hF
          refine va_iald hx hb hK hP 1 0 rfl rfl g_21 dX3_lowerKeys_21 ?_
          refine lv_iload_n hx hb dX3_lowerKeys_22 rfl (lv_at hl 1 rfl) ?_
          refine lv_icmp_ge (tgt := 32) hx hb dX3_lowerKeys_23 (by decide) (fun c_23 => ?_) (fun c_23 => ?_)
          · have hF := ift hF c_23
            refine lv_iload_n hx hb dX3_lowerKeys_32 rfl (lv_at hl 2 rfl) ?_
            obtain e0_33 := inj1 hF
            rw [← e0_33] at hQ0
            rw [hQ0]
            exact W.iret (v := x2) hx hb hr (fun t ht hW => ⟨rfl, ht⟩) (fun _ h => nomatch h) dX3_lowerKeys_33
          · have hF := iff_ hF c_23
            refine lv_iinc (v := x2 + (1 : Int32)) (lv' := [(2, .int (x2 + (1 : Int32))), (0, .ref a_t), (1, .int x1)]) hx hb dX3_lowerKeys_26 hl (k := 2) rfl rfl (by decide) rfl (fun ls hl => ?_)
            refine lv_goto (tgt := 2) hx hb dX3_lowerKeys_29 (by decide) ?_
            exact ih x1 (x2 + (1 : Int32)) hF ls (lv_sub hl [1, 2, 0] rfl)
  refine W_entry hav (Nat.le_of_ble_eq_true rfl) (fun ls hl => ?_)
  have hl : lv_has ls 3 [(0, .ref a_t), (1, .int p1)] := hl
  refine lv_iconst (v := 0) hx hb dX3_lowerKeys_0 (by decide) ?_
  refine lv_istore_n (lv' := [(2, .int (0 : Int32)), (0, .ref a_t), (1, .int p1)]) hx hb dX3_lowerKeys_1 rfl hl (by decide) rfl (fun ls hl => ?_)
  exact k_2 fl p1 (0 : Int32) hF ls (lv_sub hl [1, 2, 0] rfl)
def F_X3_placeWith (fl : Nat) (t_size : Int32) (t_keys : Nat → Int32) (p1 : Int32) : Option (Int32) := bn (F_X3_lowerKeys fl t_size t_keys p1) fun r_2 => bn (F_X3_holds fl t_size r_2) fun r_8 => if r_8 = 0 then (some (-1 : Int32)) else (gi r_2 24 (if (t_keys r_2.toNatClampNeg) = p1 then (some r_2) else (some (-1 : Int32))))
theorem iX3_placeWith_X3 : ∀ w ∈ u_ws RX3 TX3 6, w ∈ wsX3_placeWith := fun w h => List.mem_cons_of_mem _ (List.mem_append_left _ (List.mem_append_right _ h))
set_option maxHeartbeats 4000000 in
set_option maxRecDepth 100000 in
theorem c_X3_placeWith (l : Launch) (D : va_G) (y : Nat → ClassId) (fl : Nat) (a_t : Nat) (a_t_keys : Nat) (a_t_weights : Nat) (a_t_towers : Nat) (a_t_coin : Nat) (t_size : Int32) (t_hidden : Int32) (t_keys : Nat → Int32) (p1 : Int32) (r : Int32) (hF : F_X3_placeWith fl t_size t_keys p1 = some r) : Met l yX3_placeWith wsX3_placeWith (rmq 1 22) (rdP D y [(a_t, .inr (7, [.ref a_t_keys, .ref a_t_weights, .ref a_t_towers, .ref a_t_coin, .int t_size, .int t_hidden])), (a_t_keys, .inl (y 0, 24, .inl t_keys))] [.ref a_t, .int p1]) (QcRead r) 0 0 (fun _ => False) := by
  refine Met.ofW (cc := cX3_placeWith) (maxL := 3) (ret := (some .int)) (by decide) rfl ?_
  intro p e s m args below meth c s₁ B hml hv
  obtain ⟨hav, hP, hK⟩ := hv
  have hx := B.exec
  have hb := B.bytes
  have hr := B.returns
  have hts := atoms_spec (ws := wsX3_placeWith) B.pre
  have hown : s.vm.findClass RX3 = some m.cls := findClass_of_methodNamed B.named
  have hlocks := B.notSynchronized
  refine W_q (R1 := (rmq 1 22)) rfl (fun Q0 hQ0 => ?_)
  unfold F_X3_placeWith at hF
  refine W_entry hav (Nat.le_of_ble_eq_true rfl) (fun ls hl => ?_)
  have hl : lv_has ls 3 [(0, .ref a_t), (1, .int p1)] := hl
  refine lv_aload_n hx hb dX3_placeWith_0 rfl (lv_at hl 0 rfl) ?_
  refine lv_iload_n hx hb dX3_placeWith_1 rfl (lv_at hl 1 rfl) ?_
  obtain ⟨r_2, hq_2, hF⟩ := bn_i hF
  refine cr_V (As := [.int p1]) (rest := []) ⟨hx, hb, hml, hown, hts⟩ (c_X3_lowerKeys l D y fl a_t a_t_keys a_t_weights a_t_towers a_t_coin t_size t_hidden t_keys p1 r_2 hq_2) (cwV 1 hts gX3_placeWith_X3_lowerKeys rfl rfl rfl (by decide +kernel) ⟨Nat.le_of_ble_eq_true rfl, Nat.le_of_ble_eq_true rfl⟩) hK hP [0, 1] rfl rfl rfl rfl hl.1 rfl (Nat.le_of_ble_eq_true rfl) dX3_placeWith_2 ⟨Nat.le_of_ble_eq_true rfl, Nat.le_of_ble_eq_true rfl⟩ ?_
  refine lv_istore_n (lv' := [(2, .int r_2), (0, .ref a_t), (1, .int p1)]) hx hb dX3_placeWith_5 rfl hl (by decide) rfl (fun ls hl => ?_)
  refine lv_aload_n hx hb dX3_placeWith_6 rfl (lv_at hl 1 rfl) ?_
  refine lv_iload_n hx hb dX3_placeWith_7 rfl (lv_at hl 0 rfl) ?_
  obtain ⟨r_8, hq_8, hF⟩ := bn_i hF
  refine cr_V (As := [.int r_2]) (rest := []) ⟨hx, hb, hml, hown, hts⟩ (c_X3_holds l D y fl a_t a_t_keys a_t_weights a_t_towers a_t_coin t_size t_hidden r_2 r_8 hq_8) (cwV 1 hts gX3_placeWith_X3_holds rfl rfl rfl (by decide +kernel) ⟨Nat.le_of_ble_eq_true rfl, Nat.le_of_ble_eq_true rfl⟩) hK hP [0] rfl rfl rfl rfl hl.1 rfl (Nat.le_of_ble_eq_true rfl) dX3_placeWith_8 ⟨Nat.le_of_ble_eq_true rfl, Nat.le_of_ble_eq_true rfl⟩ ?_
  refine lv_if_eq (tgt := 28) hx hb dX3_placeWith_11 (by decide) (fun c_11 => ?_) (fun c_11 => ?_)
  · have hF := ift hF c_11
    refine lv_iconst (v := -1) hx hb dX3_placeWith_28 (by decide) ?_
    obtain e0_29 := inj1 hF
    rw [← e0_29] at hQ0
    rw [hQ0]
    exact W.iret (v := (-1 : Int32)) hx hb hr (fun t ht hW => ⟨rfl, ht⟩) (fun _ h => nomatch h) dX3_placeWith_29
  · have hF := iff_ hF c_11
    refine lv_aload_n hx hb dX3_placeWith_14 rfl (lv_at hl 1 rfl) ?_
    refine va_get (D := D) (ci := 7) (v := .ref a_t_keys) (C := RX3) (T := TX3) (N := 6) hx hb hts iX3_placeWith_X3 hown hK hP 0 rfl rfl 0 (by decide) (hts (.fieldLink RX3 9 "SkipArchive$Ladder" "keys" "[I") (List.mem_of_getElem? (i := 1) rfl)) (fun _ h9 => h9) rfl dX3_placeWith_15 ?_
    refine lv_iload_n hx hb dX3_placeWith_18 rfl (lv_at hl 0 rfl) ?_
    obtain ⟨g_19, hF⟩ := gi_i hF
    refine va_iald hx hb hK hP 1 0 rfl rfl g_19 dX3_placeWith_19 ?_
    refine lv_iload_n hx hb dX3_placeWith_20 rfl (lv_at hl 2 rfl) ?_
    refine lv_icmp_ne (tgt := 28) hx hb dX3_placeWith_21 (by decide) (fun c_21 => ?_) (fun c_21 => ?_)
    · have hF := iff_ hF c_21
      refine lv_iconst (v := -1) hx hb dX3_placeWith_28 (by decide) ?_
      obtain e0_29 := inj1 hF
      rw [← e0_29] at hQ0
      rw [hQ0]
      exact W.iret (v := (-1 : Int32)) hx hb hr (fun t ht hW => ⟨rfl, ht⟩) (fun _ h => nomatch h) dX3_placeWith_29
    · have hF := ift hF c_21
      refine lv_iload_n hx hb dX3_placeWith_24 rfl (lv_at hl 0 rfl) ?_
      refine lv_goto (tgt := 29) hx hb dX3_placeWith_25 (by decide) ?_
      obtain e0_29 := inj1 hF
      rw [← e0_29] at hQ0
      rw [hQ0]
      exact W.iret (v := r_2) hx hb hr (fun t ht hW => ⟨rfl, ht⟩) (fun _ h => nomatch h) dX3_placeWith_29
def F_X3_isFull (fl : Nat) (t_size : Int32) : Option (Int32) := if t_size < (24 : Int32) then (some (0 : Int32)) else (some (1 : Int32))
theorem iX3_isFull_X3 : ∀ w ∈ u_ws RX3 TX3 6, w ∈ wsX3_isFull := fun w h => List.mem_cons_of_mem _ (List.mem_append_right _ h)
set_option maxHeartbeats 4000000 in
set_option maxRecDepth 100000 in
theorem c_X3_isFull (l : Launch) (D : va_G) (y : Nat → ClassId) (fl : Nat) (a_t : Nat) (a_t_keys : Nat) (a_t_weights : Nat) (a_t_towers : Nat) (a_t_coin : Nat) (t_size : Int32) (t_hidden : Int32) (r : Int32) (hF : F_X3_isFull fl t_size = some r) : Met l yX3_isFull wsX3_isFull (rmq 0 0) (rdP D y [(a_t, .inr (7, [.ref a_t_keys, .ref a_t_weights, .ref a_t_towers, .ref a_t_coin, .int t_size, .int t_hidden]))] [.ref a_t]) (QcRead r) 0 0 (fun _ => False) := by
  refine Met.ofW (cc := cX3_isFull) (maxL := 1) (ret := (some .boolean)) (by decide) rfl ?_
  intro p e s m args below meth c s₁ B hml hv
  obtain ⟨hav, hP, hK⟩ := hv
  have hx := B.exec
  have hb := B.bytes
  have hr := B.returns
  have hts := atoms_spec (ws := wsX3_isFull) B.pre
  have hown : s.vm.findClass RX3 = some m.cls := findClass_of_methodNamed B.named
  have hlocks := B.notSynchronized
  refine W_q (R1 := (rmq 0 0)) rfl (fun Q0 hQ0 => ?_)
  unfold F_X3_isFull at hF
  refine W_entry hav (Nat.le_of_ble_eq_true rfl) (fun ls hl => ?_)
  have hl : lv_has ls 1 [(0, .ref a_t)] := hl
  refine lv_aload_n hx hb dX3_isFull_0 rfl (lv_at hl 0 rfl) ?_
  refine va_get (D := D) (ci := 7) (v := .int t_size) (C := RX3) (T := TX3) (N := 6) hx hb hts iX3_isFull_X3 hown hK hP 0 rfl rfl 4 (by decide) (hts (.fieldLink RX3 28 "SkipArchive$Ladder" "size" "I") (List.mem_of_getElem? (i := 1) rfl)) (fun _ h9 => h9) rfl dX3_isFull_1 ?_
  refine lv_bipush (v := 24) hx hb dX3_isFull_4 (by decide) ?_
  refine lv_icmp_lt (tgt := 13) hx hb dX3_isFull_6 (by decide) (fun c_6 => ?_) (fun c_6 => ?_)
  · have hF := ift hF c_6
    refine lv_iconst (v := 0) hx hb dX3_isFull_13 (by decide) ?_
    obtain e0_14 := inj1 hF
    rw [← e0_14] at hQ0
    rw [hQ0]
    exact W.zret (v := (0 : Int32)) hx hb hr (by decide +kernel) (fun t ht hW => ⟨rfl, ht⟩) (fun _ h => nomatch h) dX3_isFull_14
  · have hF := iff_ hF c_6
    refine lv_iconst (v := 1) hx hb dX3_isFull_9 (by decide) ?_
    refine lv_goto (tgt := 14) hx hb dX3_isFull_10 (by decide) ?_
    obtain e0_14 := inj1 hF
    rw [← e0_14] at hQ0
    rw [hQ0]
    exact W.zret (v := (1 : Int32)) hx hb hr (by decide +kernel) (fun t ht hW => ⟨rfl, ht⟩) (fun _ h => nomatch h) dX3_isFull_14
def F_X3_put (fl : Nat) (t_size : Int32) (t_keys : Nat → Int32) (t_weights : Nat → Int32) (t_towers : Nat → Int32) (p1 : Int32) (p2 : Int32) (p3 : Int32) (p4 : Int32) : Option ((Nat → Int32) × (Nat → Int32) × (Nat → Int32)) := bn (F_X3_holds fl t_size p1) fun r_2 => if r_2 = 0 then (some (t_keys, t_weights, t_towers)) else (gi p1 24 (gi p1 24 (gi p1 24 (some (upd t_keys p1.toNatClampNeg p2, upd t_weights p1.toNatClampNeg p3, upd t_towers p1.toNatClampNeg p4)))))
theorem iX3_put_X3 : ∀ w ∈ u_ws RX3 TX3 6, w ∈ wsX3_put := fun w h => List.mem_cons_of_mem _ (List.mem_append_left _ (List.mem_append_right _ h))
set_option maxHeartbeats 4000000 in
set_option maxRecDepth 100000 in
theorem c_X3_put (l : Launch) (D : va_G) (y : Nat → ClassId) (fl : Nat) (sz : Nat) (a_t : Nat) (a_t_keys : Nat) (a_t_weights : Nat) (a_t_towers : Nat) (a_t_coin : Nat) (t_size : Int32) (t_hidden : Int32) (t_keys : Nat → Int32) (t_weights : Nat → Int32) (t_towers : Nat → Int32) (p1 : Int32) (p2 : Int32) (p3 : Int32) (p4 : Int32) (t_keys' : Nat → Int32) (t_weights' : Nat → Int32) (t_towers' : Nat → Int32) (hF : F_X3_put fl t_size t_keys t_weights t_towers p1 p2 p3 p4 = some (t_keys', t_weights', t_towers')) : Met l yX3_put wsX3_put (rmq 1 21) (wrP D y [(a_t, .inr (7, [.ref a_t_keys, .ref a_t_weights, .ref a_t_towers, .ref a_t_coin, .int t_size, .int t_hidden])), (a_t_keys, .inl (y 0, 24, .inl t_keys)), (a_t_weights, .inl (y 0, 24, .inl t_weights)), (a_t_towers, .inl (y 0, 24, .inl t_towers))] sz [.ref a_t, .int p1, .int p2, .int p3, .int p4]) (wQv D y [(a_t, .inr (7, [.ref a_t_keys, .ref a_t_weights, .ref a_t_towers, .ref a_t_coin, .int t_size, .int t_hidden])), (a_t_keys, .inl (y 0, 24, .inl t_keys')), (a_t_weights, .inl (y 0, 24, .inl t_weights')), (a_t_towers, .inl (y 0, 24, .inl t_towers'))] [(a_t, .inr (7, [.ref a_t_keys, .ref a_t_weights, .ref a_t_towers, .ref a_t_coin, .int t_size, .int t_hidden])), (a_t_keys, .inl (y 0, 24, .inl t_keys)), (a_t_weights, .inl (y 0, 24, .inl t_weights)), (a_t_towers, .inl (y 0, 24, .inl t_towers))] sz) 0 0 (va_A [(a_t, .inr (7, [.ref a_t_keys, .ref a_t_weights, .ref a_t_towers, .ref a_t_coin, .int t_size, .int t_hidden])), (a_t_keys, .inl (y 0, 24, .inl t_keys)), (a_t_weights, .inl (y 0, 24, .inl t_weights)), (a_t_towers, .inl (y 0, 24, .inl t_towers))] sz) := by
  refine Met.ofW (cc := cX3_put) (maxL := 5) (ret := none) (by decide) rfl ?_
  intro p e s m args below meth c s₁ B hml hv
  obtain ⟨hav, hsz, hP, hK, hD0⟩ := hv
  have hx := B.exec
  have hb := B.bytes
  have hr := B.returns
  have hts := atoms_spec (ws := wsX3_put) B.pre
  have hown : s.vm.findClass RX3 = some m.cls := findClass_of_methodNamed B.named
  have hlocks := B.notSynchronized
  subst hsz
  have hD := hD0.self (sz := s.heap.size)
  obtain ⟨A, hAe⟩ : ∃ A : Nat → Prop, va_A [(a_t, .inr (7, [.ref a_t_keys, .ref a_t_weights, .ref a_t_towers, .ref a_t_coin, .int t_size, .int t_hidden])), (a_t_keys, .inl (y 0, 24, .inl t_keys)), (a_t_weights, .inl (y 0, 24, .inl t_weights)), (a_t_towers, .inl (y 0, 24, .inl t_towers))] s.heap.size = A := ⟨_, rfl⟩
  rw [hAe] at hD
  have hA : ∀ q, s.heap.size ≤ q → A q := fun q h => by rw [← hAe]; exact Or.inr h
  have hS : va_S A s.heap s.heap [] := va_S.rf
  refine W_q (R1 := (rmq 1 21)) rfl (fun Q0 hQ0 => ?_)
  unfold F_X3_put at hF
  refine W_entry hav (Nat.le_of_ble_eq_true rfl) (fun ls hl => ?_)
  have hl : lv_has ls 5 [(0, .ref a_t), (1, .int p1), (2, .int p2), (3, .int p3), (4, .int p4)] := hl
  refine lv_aload_n hx hb dX3_put_0 rfl (lv_at hl 0 rfl) ?_
  refine lv_iload_n hx hb dX3_put_1 rfl (lv_at hl 1 rfl) ?_
  obtain ⟨r_2, hq_2, hF⟩ := bn_i hF
  refine cr_V (As := [.int p1]) (rest := []) ⟨hx, hb, hml, hown, hts⟩ (c_X3_holds l D y fl a_t a_t_keys a_t_weights a_t_towers a_t_coin t_size t_hidden p1 r_2 hq_2) (cwV 1 hts gX3_put_X3_holds rfl rfl rfl (by decide +kernel) ⟨Nat.le_of_ble_eq_true rfl, Nat.le_of_ble_eq_true rfl⟩) hK hP [0] rfl rfl rfl rfl hl.1 rfl (Nat.le_of_ble_eq_true rfl) dX3_put_2 ⟨Nat.le_of_ble_eq_true rfl, Nat.le_of_ble_eq_true rfl⟩ ?_
  refine lv_if_eq (tgt := 30) hx hb dX3_put_5 (by decide) (fun c_5 => ?_) (fun c_5 => ?_)
  · have hF := ift hF c_5
    obtain ⟨e0_30, e1_30, e2_30⟩ := inj3 hF
    rw [← e0_30, ← e1_30, ← e2_30] at hQ0
    rw [hQ0]
    exact ret_v hx hb hr hlocks hAe hK hP hD hS [0, 1, 2, 3] rfl rfl dX3_put_30
  · have hF := iff_ hF c_5
    refine lv_aload_n hx hb dX3_put_8 rfl (lv_at hl 0 rfl) ?_
    refine va_get (D := D) (ci := 7) (v := .ref a_t_keys) (C := RX3) (T := TX3) (N := 6) hx hb hts iX3_put_X3 hown hK hP 0 rfl rfl 0 (by decide) (hts (.fieldLink RX3 9 "SkipArchive$Ladder" "keys" "[I") (List.mem_of_getElem? (i := 1) rfl)) (fun _ h9 => h9) rfl dX3_put_9 ?_
    refine lv_iload_n hx hb dX3_put_12 rfl (lv_at hl 1 rfl) ?_
    refine lv_iload_n hx hb dX3_put_13 rfl (lv_at hl 2 rfl) ?_
    obtain ⟨g_14, hF⟩ := gi_i hF
    refine va_iast hx hb hK hP hD hS 1 0 rfl rfl g_14 dX3_put_14 (fun H locs hP hD hS => ?_)
    have hP : va_P D vwCl [(a_t, .inr (7, [.ref a_t_keys, .ref a_t_weights, .ref a_t_towers, .ref a_t_coin, .int t_size, .int t_hidden])), (a_t_keys, .inl (y 0, 24, .inl (upd t_keys p1.toNatClampNeg p2))), (a_t_weights, .inl (y 0, 24, .inl t_weights)), (a_t_towers, .inl (y 0, 24, .inl t_towers))] H := hP
    have hD : va_D A [(a_t, .inr (7, [.ref a_t_keys, .ref a_t_weights, .ref a_t_towers, .ref a_t_coin, .int t_size, .int t_hidden])), (a_t_keys, .inl (y 0, 24, .inl (upd t_keys p1.toNatClampNeg p2))), (a_t_weights, .inl (y 0, 24, .inl t_weights)), (a_t_towers, .inl (y 0, 24, .inl t_towers))] := hD
    refine lv_aload_n hx hb dX3_put_15 rfl (lv_at hl 0 rfl) ?_
    refine va_get (D := D) (ci := 7) (v := .ref a_t_weights) (C := RX3) (T := TX3) (N := 6) hx hb hts iX3_put_X3 hown hK hP 0 rfl rfl 1 (by decide) (hts (.fieldLink RX3 15 "SkipArchive$Ladder" "weights" "[I") (List.mem_of_getElem? (i := 2) rfl)) (fun _ h9 => h9) rfl dX3_put_16 ?_
    refine lv_iload_n hx hb dX3_put_19 rfl (lv_at hl 1 rfl) ?_
    refine lv_iload_n hx hb dX3_put_20 rfl (lv_at hl 3 rfl) ?_
    obtain ⟨g_21, hF⟩ := gi_i hF
    refine va_iast hx hb hK hP hD hS 2 0 rfl rfl g_21 dX3_put_21 (fun H locs hP hD hS => ?_)
    have hP : va_P D vwCl [(a_t, .inr (7, [.ref a_t_keys, .ref a_t_weights, .ref a_t_towers, .ref a_t_coin, .int t_size, .int t_hidden])), (a_t_keys, .inl (y 0, 24, .inl (upd t_keys p1.toNatClampNeg p2))), (a_t_weights, .inl (y 0, 24, .inl (upd t_weights p1.toNatClampNeg p3))), (a_t_towers, .inl (y 0, 24, .inl t_towers))] H := hP
    have hD : va_D A [(a_t, .inr (7, [.ref a_t_keys, .ref a_t_weights, .ref a_t_towers, .ref a_t_coin, .int t_size, .int t_hidden])), (a_t_keys, .inl (y 0, 24, .inl (upd t_keys p1.toNatClampNeg p2))), (a_t_weights, .inl (y 0, 24, .inl (upd t_weights p1.toNatClampNeg p3))), (a_t_towers, .inl (y 0, 24, .inl t_towers))] := hD
    refine lv_aload_n hx hb dX3_put_22 rfl (lv_at hl 0 rfl) ?_
    refine va_get (D := D) (ci := 7) (v := .ref a_t_towers) (C := RX3) (T := TX3) (N := 6) hx hb hts iX3_put_X3 hown hK hP 0 rfl rfl 2 (by decide) (hts (.fieldLink RX3 18 "SkipArchive$Ladder" "towers" "[I") (List.mem_of_getElem? (i := 3) rfl)) (fun _ h9 => h9) rfl dX3_put_23 ?_
    refine lv_iload_n hx hb dX3_put_26 rfl (lv_at hl 1 rfl) ?_
    refine lv_iload hx hb dX3_put_27 (lv_at hl 4 rfl) ?_
    obtain ⟨g_29, hF⟩ := gi_i hF
    refine va_iast hx hb hK hP hD hS 3 0 rfl rfl g_29 dX3_put_29 (fun H locs hP hD hS => ?_)
    have hP : va_P D vwCl [(a_t, .inr (7, [.ref a_t_keys, .ref a_t_weights, .ref a_t_towers, .ref a_t_coin, .int t_size, .int t_hidden])), (a_t_keys, .inl (y 0, 24, .inl (upd t_keys p1.toNatClampNeg p2))), (a_t_weights, .inl (y 0, 24, .inl (upd t_weights p1.toNatClampNeg p3))), (a_t_towers, .inl (y 0, 24, .inl (upd t_towers p1.toNatClampNeg p4)))] H := hP
    have hD : va_D A [(a_t, .inr (7, [.ref a_t_keys, .ref a_t_weights, .ref a_t_towers, .ref a_t_coin, .int t_size, .int t_hidden])), (a_t_keys, .inl (y 0, 24, .inl (upd t_keys p1.toNatClampNeg p2))), (a_t_weights, .inl (y 0, 24, .inl (upd t_weights p1.toNatClampNeg p3))), (a_t_towers, .inl (y 0, 24, .inl (upd t_towers p1.toNatClampNeg p4)))] := hD
    obtain ⟨e0_30, e1_30, e2_30⟩ := inj3 hF
    rw [← e0_30, ← e1_30, ← e2_30] at hQ0
    rw [hQ0]
    exact ret_v hx hb hr hlocks hAe hK hP hD hS [0, 1, 2, 3] rfl rfl dX3_put_30
def F_X3_insert_33 (fl : Nat) : Nat → Int32 → (Nat → Int32) → (Nat → Int32) → (Nat → Int32) → Int32 → Int32 → Int32 → Int32 → Int32 → Option (Int32 × (Nat → Int32) × (Nat → Int32) × (Nat → Int32))
  | 0, _, _, _, _, _, _, _, _, _ => none
  | n + 1, t_size_w, t_keys_w, t_weights_w, t_towers_w, x1, x2, x3, x4, x5 => if x5 ≤ x4 then (bn3 (F_X3_put fl t_size_w t_keys_w t_weights_w t_towers_w x4 x1 x2 x3) fun t_keys_82 t_weights_82 t_towers_82 => some (t_size_w, t_keys_82, t_weights_82, t_towers_82)) else (bn (F_X3_keyOf fl t_size_w t_keys_w (x5 - (1 : Int32))) fun r_48 => bn (F_X3_weightOf fl t_size_w t_weights_w (x5 - (1 : Int32))) fun r_56 => bn (F_X3_rungsOf fl t_size_w t_towers_w (x5 - (1 : Int32))) fun r_64 => bn3 (F_X3_put fl t_size_w t_keys_w t_weights_w t_towers_w x5 r_48 r_56 r_64) fun t_keys_67 t_weights_67 t_towers_67 => F_X3_insert_33 fl n t_size_w t_keys_67 t_weights_67 t_towers_67 x1 x2 x3 x4 (x5 + (-1 : Int32)))
def F_X3_insert (fl : Nat) (t_size : Int32) (t_keys : Nat → Int32) (t_weights : Nat → Int32) (t_towers : Nat → Int32) (p1 : Int32) (p2 : Int32) (p3 : Int32) : Option (Int32 × (Nat → Int32) × (Nat → Int32) × (Nat → Int32)) := bn (F_X3_isFull fl t_size) fun r_1 => if r_1 = 0 then (bn (F_X3_lowerKeys fl t_size t_keys p1) fun r_10 => F_X3_insert_33 fl fl (t_size + (1 : Int32)) t_keys t_weights t_towers p1 p2 p3 r_10 ((t_size + (1 : Int32)) - (1 : Int32))) else (some (t_size, t_keys, t_weights, t_towers))
theorem iX3_insert_X3 : ∀ w ∈ u_ws RX3 TX3 6, w ∈ wsX3_insert := fun w h => List.mem_cons_of_mem _ (List.mem_append_left _ (List.mem_append_right _ h))
set_option maxHeartbeats 4000000 in
set_option maxRecDepth 100000 in
theorem c_X3_insert (l : Launch) (D : va_G) (y : Nat → ClassId) (fl : Nat) (sz : Nat) (a_t : Nat) (a_t_keys : Nat) (a_t_weights : Nat) (a_t_towers : Nat) (a_t_coin : Nat) (t_size : Int32) (t_hidden : Int32) (t_keys : Nat → Int32) (t_weights : Nat → Int32) (t_towers : Nat → Int32) (p1 : Int32) (p2 : Int32) (p3 : Int32) (t_size' : Int32) (t_keys' : Nat → Int32) (t_weights' : Nat → Int32) (t_towers' : Nat → Int32) (hF : F_X3_insert fl t_size t_keys t_weights t_towers p1 p2 p3 = some (t_size', t_keys', t_weights', t_towers')) : Met l yX3_insert wsX3_insert (rmq 2 45) (wrP D y [(a_t, .inr (7, [.ref a_t_keys, .ref a_t_weights, .ref a_t_towers, .ref a_t_coin, .int t_size, .int t_hidden])), (a_t_keys, .inl (y 0, 24, .inl t_keys)), (a_t_weights, .inl (y 0, 24, .inl t_weights)), (a_t_towers, .inl (y 0, 24, .inl t_towers))] sz [.ref a_t, .int p1, .int p2, .int p3]) (wQv D y [(a_t, .inr (7, [.ref a_t_keys, .ref a_t_weights, .ref a_t_towers, .ref a_t_coin, .int t_size', .int t_hidden])), (a_t_keys, .inl (y 0, 24, .inl t_keys')), (a_t_weights, .inl (y 0, 24, .inl t_weights')), (a_t_towers, .inl (y 0, 24, .inl t_towers'))] [(a_t, .inr (7, [.ref a_t_keys, .ref a_t_weights, .ref a_t_towers, .ref a_t_coin, .int t_size, .int t_hidden])), (a_t_keys, .inl (y 0, 24, .inl t_keys)), (a_t_weights, .inl (y 0, 24, .inl t_weights)), (a_t_towers, .inl (y 0, 24, .inl t_towers))] sz) 0 0 (va_A [(a_t, .inr (7, [.ref a_t_keys, .ref a_t_weights, .ref a_t_towers, .ref a_t_coin, .int t_size, .int t_hidden])), (a_t_keys, .inl (y 0, 24, .inl t_keys)), (a_t_weights, .inl (y 0, 24, .inl t_weights)), (a_t_towers, .inl (y 0, 24, .inl t_towers))] sz) := by
  refine Met.ofW (cc := cX3_insert) (maxL := 6) (ret := none) (by decide) rfl ?_
  intro p e s m args below meth c s₁ B hml hv
  obtain ⟨hav, hsz, hP, hK, hD0⟩ := hv
  have hx := B.exec
  have hb := B.bytes
  have hr := B.returns
  have hts := atoms_spec (ws := wsX3_insert) B.pre
  have hown : s.vm.findClass RX3 = some m.cls := findClass_of_methodNamed B.named
  have hlocks := B.notSynchronized
  subst hsz
  have hD := hD0.self (sz := s.heap.size)
  obtain ⟨A, hAe⟩ : ∃ A : Nat → Prop, va_A [(a_t, .inr (7, [.ref a_t_keys, .ref a_t_weights, .ref a_t_towers, .ref a_t_coin, .int t_size, .int t_hidden])), (a_t_keys, .inl (y 0, 24, .inl t_keys)), (a_t_weights, .inl (y 0, 24, .inl t_weights)), (a_t_towers, .inl (y 0, 24, .inl t_towers))] s.heap.size = A := ⟨_, rfl⟩
  rw [hAe] at hD
  have hA : ∀ q, s.heap.size ≤ q → A q := fun q h => by rw [← hAe]; exact Or.inr h
  have hS : va_S A s.heap s.heap [] := va_S.rf
  refine W_q (R1 := (rmq 2 45)) rfl (fun Q0 hQ0 => ?_)
  unfold F_X3_insert at hF
  have k_33 : ∀ (n : Nat) (t_size_w : Int32) (t_keys_w : Nat → Int32) (t_weights_w : Nat → Int32) (t_towers_w : Nat → Int32) (x1 : Int32) (x2 : Int32) (x3 : Int32) (x4 : Int32) (x5 : Int32), F_X3_insert_33 fl n t_size_w t_keys_w t_weights_w t_towers_w x1 x2 x3 x4 x5 = some (t_size', t_keys', t_weights', t_towers') → ∀ (H : Heap) (locs : List Loc), va_P D vwCl [(a_t, .inr (7, [.ref a_t_keys, .ref a_t_weights, .ref a_t_towers, .ref a_t_coin, .int t_size_w, .int t_hidden])), (a_t_keys, .inl (y 0, 24, .inl t_keys_w)), (a_t_weights, .inl (y 0, 24, .inl t_weights_w)), (a_t_towers, .inl (y 0, 24, .inl t_towers_w))] H → va_D A [(a_t, .inr (7, [.ref a_t_keys, .ref a_t_weights, .ref a_t_towers, .ref a_t_coin, .int t_size_w, .int t_hidden])), (a_t_keys, .inl (y 0, 24, .inl t_keys_w)), (a_t_weights, .inl (y 0, 24, .inl t_weights_w)), (a_t_towers, .inl (y 0, 24, .inl t_towers_w))] → va_S A s.heap H locs → ∀ (ls : Array Slot), lv_has ls 6 [(0, .ref a_t), (1, .int x1), (2, .int x2), (3, .int x3), (4, .int x4), (5, .int x5)] → W p l e (rmq 2 45) s m args below meth c H locs 0 0 Q0 (F0 m 33 ls []) := by
    intro n
    induction n with
    | zero => intro t_size_w t_keys_w t_weights_w t_towers_w x1 x2 x3 x4 x5 hF; rw [F_X3_insert_33] at hF; cases hF
    | succ n ih =>
      intro t_size_w t_keys_w t_weights_w t_towers_w x1 x2 x3 x4 x5 hF H locs hP hD hS ls hl
      rw [F_X3_insert_33] at hF
      refine lv_iload hx hb dX3_insert_33 (lv_at hl 5 rfl) ?_
      refine lv_iload hx hb dX3_insert_35 (lv_at hl 4 rfl) ?_
      refine lv_icmp_le (tgt := 76) hx hb dX3_insert_37 (by decide) (fun c_37 => ?_) (fun c_37 => ?_)
      · have hF := ift hF c_37
        refine lv_aload_n hx hb dX3_insert_76 rfl (lv_at hl 0 rfl) ?_
        refine lv_iload hx hb dX3_insert_77 (lv_at hl 4 rfl) ?_
        refine lv_iload_n hx hb dX3_insert_79 rfl (lv_at hl 1 rfl) ?_
        refine lv_iload_n hx hb dX3_insert_80 rfl (lv_at hl 2 rfl) ?_
        refine lv_iload_n hx hb dX3_insert_81 rfl (lv_at hl 3 rfl) ?_
        obtain ⟨t_keys_82, t_weights_82, t_towers_82, hq_82, hF⟩ := bn3_i hF
        refine cm_Vv (As := [.int x4, .int x1, .int x2, .int x3]) (rest := []) (wr := []) ⟨hx, hb, hml, hown, hts⟩ (c_X3_put l D y fl H.size a_t a_t_keys a_t_weights a_t_towers a_t_coin t_size_w t_hidden t_keys_w t_weights_w t_towers_w x4 x1 x2 x3 t_keys_82 t_weights_82 t_towers_82 hq_82) (cwV 4 hts gX3_insert_X3_put rfl rfl rfl (by decide +kernel) ⟨Nat.le_of_ble_eq_true rfl, Nat.le_of_ble_eq_true rfl⟩) hK hP hD hS hA [0, 1, 2, 3] [] rfl rfl rfl rfl (by decide) rfl rfl rfl hl.1 rfl (Nat.le_of_ble_eq_true rfl) dX3_insert_82 ⟨Nat.le_of_ble_eq_true rfl, Nat.le_of_ble_eq_true rfl⟩ (fun H locs hP hD hS => ?_)
        have hP : va_P D vwCl [(a_t, .inr (7, [.ref a_t_keys, .ref a_t_weights, .ref a_t_towers, .ref a_t_coin, .int t_size_w, .int t_hidden])), (a_t_keys, .inl (y 0, 24, .inl t_keys_82)), (a_t_weights, .inl (y 0, 24, .inl t_weights_82)), (a_t_towers, .inl (y 0, 24, .inl t_towers_82))] H := hP
        have hD : va_D A [(a_t, .inr (7, [.ref a_t_keys, .ref a_t_weights, .ref a_t_towers, .ref a_t_coin, .int t_size_w, .int t_hidden])), (a_t_keys, .inl (y 0, 24, .inl t_keys_82)), (a_t_weights, .inl (y 0, 24, .inl t_weights_82)), (a_t_towers, .inl (y 0, 24, .inl t_towers_82))] := hD
        obtain ⟨e0_85, e1_85, e2_85, e3_85⟩ := inj4 hF
        rw [← e0_85, ← e1_85, ← e2_85, ← e3_85] at hQ0
        rw [hQ0]
        exact ret_v hx hb hr hlocks hAe hK hP hD hS [0, 1, 2, 3] rfl rfl dX3_insert_85
      · have hF := iff_ hF c_37
        refine lv_aload_n hx hb dX3_insert_40 rfl (lv_at hl 0 rfl) ?_
        refine lv_iload hx hb dX3_insert_41 (lv_at hl 5 rfl) ?_
        refine lv_aload_n hx hb dX3_insert_43 rfl (lv_at hl 0 rfl) ?_
        refine lv_iload hx hb dX3_insert_44 (lv_at hl 5 rfl) ?_
        refine lv_iconst (v := 1) hx hb dX3_insert_46 (by decide) ?_
        refine lv_isub hx hb dX3_insert_47 ?_
        obtain ⟨r_48, hq_48, hF⟩ := bn_i hF
        refine cr_V (As := [.int (x5 - (1 : Int32))]) (rest := [.int x5, .ref a_t]) ⟨hx, hb, hml, hown, hts⟩ (c_X3_keyOf l D y fl a_t a_t_keys a_t_weights a_t_towers a_t_coin t_size_w t_hidden t_keys_w (x5 - (1 : Int32)) r_48 hq_48) (cwV 1 hts gX3_insert_X3_keyOf rfl rfl rfl (by decide +kernel) ⟨Nat.le_of_ble_eq_true rfl, Nat.le_of_ble_eq_true rfl⟩) hK hP [0, 1] rfl rfl rfl rfl hl.1 rfl (Nat.le_of_ble_eq_true rfl) dX3_insert_48 ⟨Nat.le_of_ble_eq_true rfl, Nat.le_of_ble_eq_true rfl⟩ ?_
        refine lv_aload_n hx hb dX3_insert_51 rfl (lv_at hl 0 rfl) ?_
        refine lv_iload hx hb dX3_insert_52 (lv_at hl 5 rfl) ?_
        refine lv_iconst (v := 1) hx hb dX3_insert_54 (by decide) ?_
        refine lv_isub hx hb dX3_insert_55 ?_
        obtain ⟨r_56, hq_56, hF⟩ := bn_i hF
        refine cr_V (As := [.int (x5 - (1 : Int32))]) (rest := [.int r_48, .int x5, .ref a_t]) ⟨hx, hb, hml, hown, hts⟩ (c_X3_weightOf l D y fl a_t a_t_keys a_t_weights a_t_towers a_t_coin t_size_w t_hidden t_weights_w (x5 - (1 : Int32)) r_56 hq_56) (cwV 1 hts gX3_insert_X3_weightOf rfl rfl rfl (by decide +kernel) ⟨Nat.le_of_ble_eq_true rfl, Nat.le_of_ble_eq_true rfl⟩) hK hP [0, 2] rfl rfl rfl rfl hl.1 rfl (Nat.le_of_ble_eq_true rfl) dX3_insert_56 ⟨Nat.le_of_ble_eq_true rfl, Nat.le_of_ble_eq_true rfl⟩ ?_
        refine lv_aload_n hx hb dX3_insert_59 rfl (lv_at hl 0 rfl) ?_
        refine lv_iload hx hb dX3_insert_60 (lv_at hl 5 rfl) ?_
        refine lv_iconst (v := 1) hx hb dX3_insert_62 (by decide) ?_
        refine lv_isub hx hb dX3_insert_63 ?_
        obtain ⟨r_64, hq_64, hF⟩ := bn_i hF
        refine cr_V (As := [.int (x5 - (1 : Int32))]) (rest := [.int r_56, .int r_48, .int x5, .ref a_t]) ⟨hx, hb, hml, hown, hts⟩ (c_X3_rungsOf l D y fl a_t a_t_keys a_t_weights a_t_towers a_t_coin t_size_w t_hidden t_towers_w (x5 - (1 : Int32)) r_64 hq_64) (cwV 1 hts gX3_insert_X3_rungsOf rfl rfl rfl (by decide +kernel) ⟨Nat.le_of_ble_eq_true rfl, Nat.le_of_ble_eq_true rfl⟩) hK hP [0, 3] rfl rfl rfl rfl hl.1 rfl (Nat.le_of_ble_eq_true rfl) dX3_insert_64 ⟨Nat.le_of_ble_eq_true rfl, Nat.le_of_ble_eq_true rfl⟩ ?_
        obtain ⟨t_keys_67, t_weights_67, t_towers_67, hq_67, hF⟩ := bn3_i hF
        refine cm_Vv (As := [.int x5, .int r_48, .int r_56, .int r_64]) (rest := []) (wr := []) ⟨hx, hb, hml, hown, hts⟩ (c_X3_put l D y fl H.size a_t a_t_keys a_t_weights a_t_towers a_t_coin t_size_w t_hidden t_keys_w t_weights_w t_towers_w x5 r_48 r_56 r_64 t_keys_67 t_weights_67 t_towers_67 hq_67) (cwV 4 hts gX3_insert_X3_put rfl rfl rfl (by decide +kernel) ⟨Nat.le_of_ble_eq_true rfl, Nat.le_of_ble_eq_true rfl⟩) hK hP hD hS hA [0, 1, 2, 3] [] rfl rfl rfl rfl (by decide) rfl rfl rfl hl.1 rfl (Nat.le_of_ble_eq_true rfl) dX3_insert_67 ⟨Nat.le_of_ble_eq_true rfl, Nat.le_of_ble_eq_true rfl⟩ (fun H locs hP hD hS => ?_)
        have hP : va_P D vwCl [(a_t, .inr (7, [.ref a_t_keys, .ref a_t_weights, .ref a_t_towers, .ref a_t_coin, .int t_size_w, .int t_hidden])), (a_t_keys, .inl (y 0, 24, .inl t_keys_67)), (a_t_weights, .inl (y 0, 24, .inl t_weights_67)), (a_t_towers, .inl (y 0, 24, .inl t_towers_67))] H := hP
        have hD : va_D A [(a_t, .inr (7, [.ref a_t_keys, .ref a_t_weights, .ref a_t_towers, .ref a_t_coin, .int t_size_w, .int t_hidden])), (a_t_keys, .inl (y 0, 24, .inl t_keys_67)), (a_t_weights, .inl (y 0, 24, .inl t_weights_67)), (a_t_towers, .inl (y 0, 24, .inl t_towers_67))] := hD
        refine lv_iinc (v := x5 + (-1 : Int32)) (lv' := [(5, .int (x5 + (-1 : Int32))), (0, .ref a_t), (1, .int x1), (2, .int x2), (3, .int x3), (4, .int x4)]) hx hb dX3_insert_70 hl (k := 5) rfl rfl (by decide) rfl (fun ls hl => ?_)
        refine lv_goto (tgt := 33) hx hb dX3_insert_73 (by decide) ?_
        exact ih t_size_w t_keys_67 t_weights_67 t_towers_67 x1 x2 x3 x4 (x5 + (-1 : Int32)) hF _ _ hP hD hS ls (lv_sub hl [1, 2, 3, 4, 5, 0] rfl)
  refine W_entry hav (Nat.le_of_ble_eq_true rfl) (fun ls hl => ?_)
  have hl : lv_has ls 6 [(0, .ref a_t), (1, .int p1), (2, .int p2), (3, .int p3)] := hl
  refine lv_aload_n hx hb dX3_insert_0 rfl (lv_at hl 0 rfl) ?_
  obtain ⟨r_1, hq_1, hF⟩ := bn_i hF
  refine cr_V (As := []) (rest := []) ⟨hx, hb, hml, hown, hts⟩ (c_X3_isFull l D y fl a_t a_t_keys a_t_weights a_t_towers a_t_coin t_size t_hidden r_1 hq_1) (cwV 0 hts gX3_insert_X3_isFull rfl rfl rfl (by decide +kernel) ⟨Nat.le_of_ble_eq_true rfl, Nat.le_of_ble_eq_true rfl⟩) hK hP [0] rfl rfl rfl rfl hl.1 rfl (Nat.le_of_ble_eq_true rfl) dX3_insert_1 ⟨Nat.le_of_ble_eq_true rfl, Nat.le_of_ble_eq_true rfl⟩ ?_
  refine lv_if_eq (tgt := 8) hx hb dX3_insert_4 (by decide) (fun c_4 => ?_) (fun c_4 => ?_)
  · have hF := ift hF c_4
    refine lv_aload_n hx hb dX3_insert_8 rfl (lv_at hl 0 rfl) ?_
    refine lv_iload_n hx hb dX3_insert_9 rfl (lv_at hl 1 rfl) ?_
    obtain ⟨r_10, hq_10, hF⟩ := bn_i hF
    refine cr_V (As := [.int p1]) (rest := []) ⟨hx, hb, hml, hown, hts⟩ (c_X3_lowerKeys l D y fl a_t a_t_keys a_t_weights a_t_towers a_t_coin t_size t_hidden t_keys p1 r_10 hq_10) (cwV 1 hts gX3_insert_X3_lowerKeys rfl rfl rfl (by decide +kernel) ⟨Nat.le_of_ble_eq_true rfl, Nat.le_of_ble_eq_true rfl⟩) hK hP [0, 1] rfl rfl rfl rfl hl.1 rfl (Nat.le_of_ble_eq_true rfl) dX3_insert_10 ⟨Nat.le_of_ble_eq_true rfl, Nat.le_of_ble_eq_true rfl⟩ ?_
    refine lv_istore (lv' := [(4, .int r_10), (0, .ref a_t), (1, .int p1), (2, .int p2), (3, .int p3)]) hx hb dX3_insert_13 hl (by decide) rfl (fun ls hl => ?_)
    refine lv_aload_n hx hb dX3_insert_15 rfl (lv_at hl 1 rfl) ?_
    refine lv_dup hx hb dX3_insert_16 rfl ?_
    refine va_get (D := D) (ci := 7) (v := .int t_size) (C := RX3) (T := TX3) (N := 6) hx hb hts iX3_insert_X3 hown hK hP 0 rfl rfl 4 (by decide) (hts (.fieldLink RX3 28 "SkipArchive$Ladder" "size" "I") (List.mem_of_getElem? (i := 1) rfl)) (fun _ h9 => h9) rfl dX3_insert_17 ?_
    refine lv_iconst (v := 1) hx hb dX3_insert_20 (by decide) ?_
    refine lv_iadd hx hb dX3_insert_21 ?_
    refine va_put (D := D) (ci := 7) (v := .int (t_size + (1 : Int32))) (ty := .int) (C := RX3) (T := TX3) (N := 6) hx hb hts iX3_insert_X3 tyX3 tyX3_ok nmX3 hown hK hP hD hS 0 rfl rfl 4 (by decide) (hts (.fieldLink RX3 28 "SkipArchive$Ladder" "size" "I") (List.mem_of_getElem? (i := 1) rfl)) (fun _ h9 => h9) rfl (by decide +kernel) rfl rfl (Nat.le_of_ble_eq_true rfl) dX3_insert_22 (fun H locs hP hD hS => ?_)
    have hP : va_P D vwCl [(a_t, .inr (7, [.ref a_t_keys, .ref a_t_weights, .ref a_t_towers, .ref a_t_coin, .int (t_size + (1 : Int32)), .int t_hidden])), (a_t_keys, .inl (y 0, 24, .inl t_keys)), (a_t_weights, .inl (y 0, 24, .inl t_weights)), (a_t_towers, .inl (y 0, 24, .inl t_towers))] H := hP
    have hD : va_D A [(a_t, .inr (7, [.ref a_t_keys, .ref a_t_weights, .ref a_t_towers, .ref a_t_coin, .int (t_size + (1 : Int32)), .int t_hidden])), (a_t_keys, .inl (y 0, 24, .inl t_keys)), (a_t_weights, .inl (y 0, 24, .inl t_weights)), (a_t_towers, .inl (y 0, 24, .inl t_towers))] := hD
    refine lv_aload_n hx hb dX3_insert_25 rfl (lv_at hl 1 rfl) ?_
    refine va_get (D := D) (ci := 7) (v := .int (t_size + (1 : Int32))) (C := RX3) (T := TX3) (N := 6) hx hb hts iX3_insert_X3 hown hK hP 0 rfl rfl 4 (by decide) (hts (.fieldLink RX3 28 "SkipArchive$Ladder" "size" "I") (List.mem_of_getElem? (i := 1) rfl)) (fun _ h9 => h9) rfl dX3_insert_26 ?_
    refine lv_iconst (v := 1) hx hb dX3_insert_29 (by decide) ?_
    refine lv_isub hx hb dX3_insert_30 ?_
    refine lv_istore (lv' := [(5, .int ((t_size + (1 : Int32)) - (1 : Int32))), (4, .int r_10), (0, .ref a_t), (1, .int p1), (2, .int p2), (3, .int p3)]) hx hb dX3_insert_31 hl (by decide) rfl (fun ls hl => ?_)
    exact k_33 fl (t_size + (1 : Int32)) t_keys t_weights t_towers p1 p2 p3 r_10 ((t_size + (1 : Int32)) - (1 : Int32)) hF _ _ hP hD hS ls (lv_sub hl [2, 3, 4, 5, 1, 0] rfl)
  · have hF := iff_ hF c_4
    obtain ⟨e0_7, e1_7, e2_7, e3_7⟩ := inj4 hF
    rw [← e0_7, ← e1_7, ← e2_7, ← e3_7] at hQ0
    rw [hQ0]
    exact ret_v hx hb hr hlocks hAe hK hP hD hS [0, 1, 2, 3] rfl rfl dX3_insert_7
def F_X3_remove_11 (fl : Nat) : Nat → Int32 → (Nat → Int32) → (Nat → Int32) → (Nat → Int32) → Int32 → Int32 → Option (Int32 × (Nat → Int32) × (Nat → Int32) × (Nat → Int32))
  | 0, _, _, _, _, _, _ => none
  | n + 1, t_size_w, t_keys_w, t_weights_w, t_towers_w, x1, x2 => if (t_size_w - (1 : Int32)) ≤ x2 then (some (t_size_w - (1 : Int32), t_keys_w, t_weights_w, t_towers_w)) else (bn (F_X3_keyOf fl t_size_w t_keys_w (x2 + (1 : Int32))) fun r_27 => bn (F_X3_weightOf fl t_size_w t_weights_w (x2 + (1 : Int32))) fun r_34 => bn (F_X3_rungsOf fl t_size_w t_towers_w (x2 + (1 : Int32))) fun r_41 => bn3 (F_X3_put fl t_size_w t_keys_w t_weights_w t_towers_w x2 r_27 r_34 r_41) fun t_keys_44 t_weights_44 t_towers_44 => F_X3_remove_11 fl n t_size_w t_keys_44 t_weights_44 t_towers_44 x1 (x2 + (1 : Int32)))
def F_X3_remove (fl : Nat) (t_size : Int32) (t_keys : Nat → Int32) (t_weights : Nat → Int32) (t_towers : Nat → Int32) (p1 : Int32) : Option (Int32 × (Nat → Int32) × (Nat → Int32) × (Nat → Int32)) := bn (F_X3_holds fl t_size p1) fun r_2 => if r_2 = 0 then (some (t_size, t_keys, t_weights, t_towers)) else (F_X3_remove_11 fl fl t_size t_keys t_weights t_towers p1 p1)
theorem iX3_remove_X3 : ∀ w ∈ u_ws RX3 TX3 6, w ∈ wsX3_remove := fun w h => List.mem_cons_of_mem _ (List.mem_append_left _ (List.mem_append_right _ h))
set_option maxHeartbeats 4000000 in
set_option maxRecDepth 100000 in
theorem c_X3_remove (l : Launch) (D : va_G) (y : Nat → ClassId) (fl : Nat) (sz : Nat) (a_t : Nat) (a_t_keys : Nat) (a_t_weights : Nat) (a_t_towers : Nat) (a_t_coin : Nat) (t_size : Int32) (t_hidden : Int32) (t_keys : Nat → Int32) (t_weights : Nat → Int32) (t_towers : Nat → Int32) (p1 : Int32) (t_size' : Int32) (t_keys' : Nat → Int32) (t_weights' : Nat → Int32) (t_towers' : Nat → Int32) (hF : F_X3_remove fl t_size t_keys t_weights t_towers p1 = some (t_size', t_keys', t_weights', t_towers')) : Met l yX3_remove wsX3_remove (rmq 2 45) (wrP D y [(a_t, .inr (7, [.ref a_t_keys, .ref a_t_weights, .ref a_t_towers, .ref a_t_coin, .int t_size, .int t_hidden])), (a_t_keys, .inl (y 0, 24, .inl t_keys)), (a_t_weights, .inl (y 0, 24, .inl t_weights)), (a_t_towers, .inl (y 0, 24, .inl t_towers))] sz [.ref a_t, .int p1]) (wQv D y [(a_t, .inr (7, [.ref a_t_keys, .ref a_t_weights, .ref a_t_towers, .ref a_t_coin, .int t_size', .int t_hidden])), (a_t_keys, .inl (y 0, 24, .inl t_keys')), (a_t_weights, .inl (y 0, 24, .inl t_weights')), (a_t_towers, .inl (y 0, 24, .inl t_towers'))] [(a_t, .inr (7, [.ref a_t_keys, .ref a_t_weights, .ref a_t_towers, .ref a_t_coin, .int t_size, .int t_hidden])), (a_t_keys, .inl (y 0, 24, .inl t_keys)), (a_t_weights, .inl (y 0, 24, .inl t_weights)), (a_t_towers, .inl (y 0, 24, .inl t_towers))] sz) 0 0 (va_A [(a_t, .inr (7, [.ref a_t_keys, .ref a_t_weights, .ref a_t_towers, .ref a_t_coin, .int t_size, .int t_hidden])), (a_t_keys, .inl (y 0, 24, .inl t_keys)), (a_t_weights, .inl (y 0, 24, .inl t_weights)), (a_t_towers, .inl (y 0, 24, .inl t_towers))] sz) := by
  refine Met.ofW (cc := cX3_remove) (maxL := 3) (ret := none) (by decide) rfl ?_
  intro p e s m args below meth c s₁ B hml hv
  obtain ⟨hav, hsz, hP, hK, hD0⟩ := hv
  have hx := B.exec
  have hb := B.bytes
  have hr := B.returns
  have hts := atoms_spec (ws := wsX3_remove) B.pre
  have hown : s.vm.findClass RX3 = some m.cls := findClass_of_methodNamed B.named
  have hlocks := B.notSynchronized
  subst hsz
  have hD := hD0.self (sz := s.heap.size)
  obtain ⟨A, hAe⟩ : ∃ A : Nat → Prop, va_A [(a_t, .inr (7, [.ref a_t_keys, .ref a_t_weights, .ref a_t_towers, .ref a_t_coin, .int t_size, .int t_hidden])), (a_t_keys, .inl (y 0, 24, .inl t_keys)), (a_t_weights, .inl (y 0, 24, .inl t_weights)), (a_t_towers, .inl (y 0, 24, .inl t_towers))] s.heap.size = A := ⟨_, rfl⟩
  rw [hAe] at hD
  have hA : ∀ q, s.heap.size ≤ q → A q := fun q h => by rw [← hAe]; exact Or.inr h
  have hS : va_S A s.heap s.heap [] := va_S.rf
  refine W_q (R1 := (rmq 2 45)) rfl (fun Q0 hQ0 => ?_)
  unfold F_X3_remove at hF
  have k_11 : ∀ (n : Nat) (t_size_w : Int32) (t_keys_w : Nat → Int32) (t_weights_w : Nat → Int32) (t_towers_w : Nat → Int32) (x1 : Int32) (x2 : Int32), F_X3_remove_11 fl n t_size_w t_keys_w t_weights_w t_towers_w x1 x2 = some (t_size', t_keys', t_weights', t_towers') → ∀ (H : Heap) (locs : List Loc), va_P D vwCl [(a_t, .inr (7, [.ref a_t_keys, .ref a_t_weights, .ref a_t_towers, .ref a_t_coin, .int t_size_w, .int t_hidden])), (a_t_keys, .inl (y 0, 24, .inl t_keys_w)), (a_t_weights, .inl (y 0, 24, .inl t_weights_w)), (a_t_towers, .inl (y 0, 24, .inl t_towers_w))] H → va_D A [(a_t, .inr (7, [.ref a_t_keys, .ref a_t_weights, .ref a_t_towers, .ref a_t_coin, .int t_size_w, .int t_hidden])), (a_t_keys, .inl (y 0, 24, .inl t_keys_w)), (a_t_weights, .inl (y 0, 24, .inl t_weights_w)), (a_t_towers, .inl (y 0, 24, .inl t_towers_w))] → va_S A s.heap H locs → ∀ (ls : Array Slot), lv_has ls 3 [(0, .ref a_t), (1, .int x1), (2, .int x2)] → W p l e (rmq 2 45) s m args below meth c H locs 0 0 Q0 (F0 m 11 ls []) := by
    intro n
    induction n with
    | zero => intro t_size_w t_keys_w t_weights_w t_towers_w x1 x2 hF; rw [F_X3_remove_11] at hF; cases hF
    | succ n ih =>
      intro t_size_w t_keys_w t_weights_w t_towers_w x1 x2 hF H locs hP hD hS ls hl
      rw [F_X3_remove_11] at hF
      refine lv_iload_n hx hb dX3_remove_11 rfl (lv_at hl 2 rfl) ?_
      refine lv_aload_n hx hb dX3_remove_12 rfl (lv_at hl 0 rfl) ?_
      refine va_get (D := D) (ci := 7) (v := .int t_size_w) (C := RX3) (T := TX3) (N := 6) hx hb hts iX3_remove_X3 hown hK hP 0 rfl rfl 4 (by decide) (hts (.fieldLink RX3 28 "SkipArchive$Ladder" "size" "I") (List.mem_of_getElem? (i := 1) rfl)) (fun _ h9 => h9) rfl dX3_remove_13 ?_
      refine lv_iconst (v := 1) hx hb dX3_remove_16 (by decide) ?_
      refine lv_isub hx hb dX3_remove_17 ?_
      refine lv_icmp_ge (tgt := 53) hx hb dX3_remove_18 (by decide) (fun c_18 => ?_) (fun c_18 => ?_)
      · have hF := ift hF c_18
        refine lv_aload_n hx hb dX3_remove_53 rfl (lv_at hl 0 rfl) ?_
        refine lv_dup hx hb dX3_remove_54 rfl ?_
        refine va_get (D := D) (ci := 7) (v := .int t_size_w) (C := RX3) (T := TX3) (N := 6) hx hb hts iX3_remove_X3 hown hK hP 0 rfl rfl 4 (by decide) (hts (.fieldLink RX3 28 "SkipArchive$Ladder" "size" "I") (List.mem_of_getElem? (i := 1) rfl)) (fun _ h9 => h9) rfl dX3_remove_55 ?_
        refine lv_iconst (v := 1) hx hb dX3_remove_58 (by decide) ?_
        refine lv_isub hx hb dX3_remove_59 ?_
        refine va_put (D := D) (ci := 7) (v := .int (t_size_w - (1 : Int32))) (ty := .int) (C := RX3) (T := TX3) (N := 6) hx hb hts iX3_remove_X3 tyX3 tyX3_ok nmX3 hown hK hP hD hS 0 rfl rfl 4 (by decide) (hts (.fieldLink RX3 28 "SkipArchive$Ladder" "size" "I") (List.mem_of_getElem? (i := 1) rfl)) (fun _ h9 => h9) rfl (by decide +kernel) rfl rfl (Nat.le_of_ble_eq_true rfl) dX3_remove_60 (fun H locs hP hD hS => ?_)
        have hP : va_P D vwCl [(a_t, .inr (7, [.ref a_t_keys, .ref a_t_weights, .ref a_t_towers, .ref a_t_coin, .int (t_size_w - (1 : Int32)), .int t_hidden])), (a_t_keys, .inl (y 0, 24, .inl t_keys_w)), (a_t_weights, .inl (y 0, 24, .inl t_weights_w)), (a_t_towers, .inl (y 0, 24, .inl t_towers_w))] H := hP
        have hD : va_D A [(a_t, .inr (7, [.ref a_t_keys, .ref a_t_weights, .ref a_t_towers, .ref a_t_coin, .int (t_size_w - (1 : Int32)), .int t_hidden])), (a_t_keys, .inl (y 0, 24, .inl t_keys_w)), (a_t_weights, .inl (y 0, 24, .inl t_weights_w)), (a_t_towers, .inl (y 0, 24, .inl t_towers_w))] := hD
        obtain ⟨e0_63, e1_63, e2_63, e3_63⟩ := inj4 hF
        rw [← e0_63, ← e1_63, ← e2_63, ← e3_63] at hQ0
        rw [hQ0]
        exact ret_v hx hb hr hlocks hAe hK hP hD hS [0, 1, 2, 3] rfl rfl dX3_remove_63
      · have hF := iff_ hF c_18
        refine lv_aload_n hx hb dX3_remove_21 rfl (lv_at hl 0 rfl) ?_
        refine lv_iload_n hx hb dX3_remove_22 rfl (lv_at hl 2 rfl) ?_
        refine lv_aload_n hx hb dX3_remove_23 rfl (lv_at hl 0 rfl) ?_
        refine lv_iload_n hx hb dX3_remove_24 rfl (lv_at hl 2 rfl) ?_
        refine lv_iconst (v := 1) hx hb dX3_remove_25 (by decide) ?_
        refine lv_iadd hx hb dX3_remove_26 ?_
        obtain ⟨r_27, hq_27, hF⟩ := bn_i hF
        refine cr_V (As := [.int (x2 + (1 : Int32))]) (rest := [.int x2, .ref a_t]) ⟨hx, hb, hml, hown, hts⟩ (c_X3_keyOf l D y fl a_t a_t_keys a_t_weights a_t_towers a_t_coin t_size_w t_hidden t_keys_w (x2 + (1 : Int32)) r_27 hq_27) (cwV 1 hts gX3_remove_X3_keyOf rfl rfl rfl (by decide +kernel) ⟨Nat.le_of_ble_eq_true rfl, Nat.le_of_ble_eq_true rfl⟩) hK hP [0, 1] rfl rfl rfl rfl hl.1 rfl (Nat.le_of_ble_eq_true rfl) dX3_remove_27 ⟨Nat.le_of_ble_eq_true rfl, Nat.le_of_ble_eq_true rfl⟩ ?_
        refine lv_aload_n hx hb dX3_remove_30 rfl (lv_at hl 0 rfl) ?_
        refine lv_iload_n hx hb dX3_remove_31 rfl (lv_at hl 2 rfl) ?_
        refine lv_iconst (v := 1) hx hb dX3_remove_32 (by decide) ?_
        refine lv_iadd hx hb dX3_remove_33 ?_
        obtain ⟨r_34, hq_34, hF⟩ := bn_i hF
        refine cr_V (As := [.int (x2 + (1 : Int32))]) (rest := [.int r_27, .int x2, .ref a_t]) ⟨hx, hb, hml, hown, hts⟩ (c_X3_weightOf l D y fl a_t a_t_keys a_t_weights a_t_towers a_t_coin t_size_w t_hidden t_weights_w (x2 + (1 : Int32)) r_34 hq_34) (cwV 1 hts gX3_remove_X3_weightOf rfl rfl rfl (by decide +kernel) ⟨Nat.le_of_ble_eq_true rfl, Nat.le_of_ble_eq_true rfl⟩) hK hP [0, 2] rfl rfl rfl rfl hl.1 rfl (Nat.le_of_ble_eq_true rfl) dX3_remove_34 ⟨Nat.le_of_ble_eq_true rfl, Nat.le_of_ble_eq_true rfl⟩ ?_
        refine lv_aload_n hx hb dX3_remove_37 rfl (lv_at hl 0 rfl) ?_
        refine lv_iload_n hx hb dX3_remove_38 rfl (lv_at hl 2 rfl) ?_
        refine lv_iconst (v := 1) hx hb dX3_remove_39 (by decide) ?_
        refine lv_iadd hx hb dX3_remove_40 ?_
        obtain ⟨r_41, hq_41, hF⟩ := bn_i hF
        refine cr_V (As := [.int (x2 + (1 : Int32))]) (rest := [.int r_34, .int r_27, .int x2, .ref a_t]) ⟨hx, hb, hml, hown, hts⟩ (c_X3_rungsOf l D y fl a_t a_t_keys a_t_weights a_t_towers a_t_coin t_size_w t_hidden t_towers_w (x2 + (1 : Int32)) r_41 hq_41) (cwV 1 hts gX3_remove_X3_rungsOf rfl rfl rfl (by decide +kernel) ⟨Nat.le_of_ble_eq_true rfl, Nat.le_of_ble_eq_true rfl⟩) hK hP [0, 3] rfl rfl rfl rfl hl.1 rfl (Nat.le_of_ble_eq_true rfl) dX3_remove_41 ⟨Nat.le_of_ble_eq_true rfl, Nat.le_of_ble_eq_true rfl⟩ ?_
        obtain ⟨t_keys_44, t_weights_44, t_towers_44, hq_44, hF⟩ := bn3_i hF
        refine cm_Vv (As := [.int x2, .int r_27, .int r_34, .int r_41]) (rest := []) (wr := []) ⟨hx, hb, hml, hown, hts⟩ (c_X3_put l D y fl H.size a_t a_t_keys a_t_weights a_t_towers a_t_coin t_size_w t_hidden t_keys_w t_weights_w t_towers_w x2 r_27 r_34 r_41 t_keys_44 t_weights_44 t_towers_44 hq_44) (cwV 4 hts gX3_remove_X3_put rfl rfl rfl (by decide +kernel) ⟨Nat.le_of_ble_eq_true rfl, Nat.le_of_ble_eq_true rfl⟩) hK hP hD hS hA [0, 1, 2, 3] [] rfl rfl rfl rfl (by decide) rfl rfl rfl hl.1 rfl (Nat.le_of_ble_eq_true rfl) dX3_remove_44 ⟨Nat.le_of_ble_eq_true rfl, Nat.le_of_ble_eq_true rfl⟩ (fun H locs hP hD hS => ?_)
        have hP : va_P D vwCl [(a_t, .inr (7, [.ref a_t_keys, .ref a_t_weights, .ref a_t_towers, .ref a_t_coin, .int t_size_w, .int t_hidden])), (a_t_keys, .inl (y 0, 24, .inl t_keys_44)), (a_t_weights, .inl (y 0, 24, .inl t_weights_44)), (a_t_towers, .inl (y 0, 24, .inl t_towers_44))] H := hP
        have hD : va_D A [(a_t, .inr (7, [.ref a_t_keys, .ref a_t_weights, .ref a_t_towers, .ref a_t_coin, .int t_size_w, .int t_hidden])), (a_t_keys, .inl (y 0, 24, .inl t_keys_44)), (a_t_weights, .inl (y 0, 24, .inl t_weights_44)), (a_t_towers, .inl (y 0, 24, .inl t_towers_44))] := hD
        refine lv_iinc (v := x2 + (1 : Int32)) (lv' := [(2, .int (x2 + (1 : Int32))), (0, .ref a_t), (1, .int x1)]) hx hb dX3_remove_47 hl (k := 2) rfl rfl (by decide) rfl (fun ls hl => ?_)
        refine lv_goto (tgt := 11) hx hb dX3_remove_50 (by decide) ?_
        exact ih t_size_w t_keys_44 t_weights_44 t_towers_44 x1 (x2 + (1 : Int32)) hF _ _ hP hD hS ls (lv_sub hl [1, 2, 0] rfl)
  refine W_entry hav (Nat.le_of_ble_eq_true rfl) (fun ls hl => ?_)
  have hl : lv_has ls 3 [(0, .ref a_t), (1, .int p1)] := hl
  refine lv_aload_n hx hb dX3_remove_0 rfl (lv_at hl 0 rfl) ?_
  refine lv_iload_n hx hb dX3_remove_1 rfl (lv_at hl 1 rfl) ?_
  obtain ⟨r_2, hq_2, hF⟩ := bn_i hF
  refine cr_V (As := [.int p1]) (rest := []) ⟨hx, hb, hml, hown, hts⟩ (c_X3_holds l D y fl a_t a_t_keys a_t_weights a_t_towers a_t_coin t_size t_hidden p1 r_2 hq_2) (cwV 1 hts gX3_remove_X3_holds rfl rfl rfl (by decide +kernel) ⟨Nat.le_of_ble_eq_true rfl, Nat.le_of_ble_eq_true rfl⟩) hK hP [0] rfl rfl rfl rfl hl.1 rfl (Nat.le_of_ble_eq_true rfl) dX3_remove_2 ⟨Nat.le_of_ble_eq_true rfl, Nat.le_of_ble_eq_true rfl⟩ ?_
  refine lv_if_ne (tgt := 9) hx hb dX3_remove_5 (by decide) (fun c_5 => ?_) (fun c_5 => ?_)
  · have hF := iff_ hF c_5
    refine lv_iload_n hx hb dX3_remove_9 rfl (lv_at hl 1 rfl) ?_
    refine lv_istore_n (lv' := [(2, .int p1), (0, .ref a_t), (1, .int p1)]) hx hb dX3_remove_10 rfl hl (by decide) rfl (fun ls hl => ?_)
    exact k_11 fl t_size t_keys t_weights t_towers p1 p1 hF _ _ hP hD hS ls (lv_sub hl [1, 2, 0] rfl)
  · have hF := ift hF c_5
    obtain ⟨e0_8, e1_8, e2_8, e3_8⟩ := inj4 hF
    rw [← e0_8, ← e1_8, ← e2_8, ← e3_8] at hQ0
    rw [hQ0]
    exact ret_v hx hb hr hlocks hAe hK hP hD hS [0, 1, 2, 3] rfl rfl dX3_remove_8
def F_X3_nextOn_4 (fl : Nat) (t_size : Int32) (t_towers : Nat → Int32) : Nat → Int32 → Int32 → Int32 → Option (Int32)
  | 0, _, _, _ => none
  | n + 1, x1, x2, x3 => if t_size ≤ x3 then (some x3) else (bn (F_X3_hasRung fl t_size t_towers x3 x1) fun r_15 => if r_15 = 0 then (F_X3_nextOn_4 fl t_size t_towers n x1 x2 (x3 + (1 : Int32))) else (some x3))
def F_X3_nextOn (fl : Nat) (t_size : Int32) (t_towers : Nat → Int32) (p1 : Int32) (p2 : Int32) : Option (Int32) := F_X3_nextOn_4 fl t_size t_towers fl p1 p2 (p2 + (1 : Int32))
theorem iX3_nextOn_X3 : ∀ w ∈ u_ws RX3 TX3 6, w ∈ wsX3_nextOn := fun w h => List.mem_cons_of_mem _ (List.mem_append_left _ (List.mem_append_right _ h))
set_option maxHeartbeats 4000000 in
set_option maxRecDepth 100000 in
theorem c_X3_nextOn (l : Launch) (D : va_G) (y : Nat → ClassId) (fl : Nat) (a_t : Nat) (a_t_keys : Nat) (a_t_weights : Nat) (a_t_towers : Nat) (a_t_coin : Nat) (t_size : Int32) (t_hidden : Int32) (t_towers : Nat → Int32) (p1 : Int32) (p2 : Int32) (r : Int32) (hF : F_X3_nextOn fl t_size t_towers p1 p2 = some r) : Met l yX3_nextOn wsX3_nextOn (rmq 2 43) (rdP D y [(a_t, .inr (7, [.ref a_t_keys, .ref a_t_weights, .ref a_t_towers, .ref a_t_coin, .int t_size, .int t_hidden])), (a_t_towers, .inl (y 0, 24, .inl t_towers))] [.ref a_t, .int p1, .int p2]) (QcRead r) 0 0 (fun _ => False) := by
  refine Met.ofW (cc := cX3_nextOn) (maxL := 4) (ret := (some .int)) (by decide) rfl ?_
  intro p e s m args below meth c s₁ B hml hv
  obtain ⟨hav, hP, hK⟩ := hv
  have hx := B.exec
  have hb := B.bytes
  have hr := B.returns
  have hts := atoms_spec (ws := wsX3_nextOn) B.pre
  have hown : s.vm.findClass RX3 = some m.cls := findClass_of_methodNamed B.named
  have hlocks := B.notSynchronized
  refine W_q (R1 := (rmq 2 43)) rfl (fun Q0 hQ0 => ?_)
  unfold F_X3_nextOn at hF
  have k_4 : ∀ (n : Nat) (x1 : Int32) (x2 : Int32) (x3 : Int32), F_X3_nextOn_4 fl t_size t_towers n x1 x2 x3 = some r → ∀ (ls : Array Slot), lv_has ls 4 [(0, .ref a_t), (1, .int x1), (2, .int x2), (3, .int x3)] → W p l e (rmq 2 43) s m args below meth c s.heap [] 0 0 Q0 (F0 m 4 ls []) := by
    intro n
    induction n with
    | zero => intro x1 x2 x3 hF; rw [F_X3_nextOn_4] at hF; cases hF
    | succ n ih =>
      intro x1 x2 x3 hF ls hl
      rw [F_X3_nextOn_4] at hF
      refine lv_iload_n hx hb dX3_nextOn_4 rfl (lv_at hl 3 rfl) ?_
      refine lv_aload_n hx hb dX3_nextOn_5 rfl (lv_at hl 0 rfl) ?_
      refine va_get (D := D) (ci := 7) (v := .int t_size) (C := RX3) (T := TX3) (N := 6) hx hb hts iX3_nextOn_X3 hown hK hP 0 rfl rfl 4 (by decide) (hts (.fieldLink RX3 28 "SkipArchive$Ladder" "size" "I") (List.mem_of_getElem? (i := 1) rfl)) (fun _ h9 => h9) rfl dX3_nextOn_6 ?_
      refine lv_icmp_ge (tgt := 27) hx hb dX3_nextOn_9 (by decide) (fun c_9 => ?_) (fun c_9 => ?_)
      · have hF := ift hF c_9
        refine lv_iload_n hx hb dX3_nextOn_27 rfl (lv_at hl 3 rfl) ?_
        obtain e0_28 := inj1 hF
        rw [← e0_28] at hQ0
        rw [hQ0]
        exact W.iret (v := x3) hx hb hr (fun t ht hW => ⟨rfl, ht⟩) (fun _ h => nomatch h) dX3_nextOn_28
      · have hF := iff_ hF c_9
        refine lv_aload_n hx hb dX3_nextOn_12 rfl (lv_at hl 0 rfl) ?_
        refine lv_iload_n hx hb dX3_nextOn_13 rfl (lv_at hl 3 rfl) ?_
        refine lv_iload_n hx hb dX3_nextOn_14 rfl (lv_at hl 1 rfl) ?_
        obtain ⟨r_15, hq_15, hF⟩ := bn_i hF
        refine cr_V (As := [.int x3, .int x1]) (rest := []) ⟨hx, hb, hml, hown, hts⟩ (c_X3_hasRung l D y fl a_t a_t_keys a_t_weights a_t_towers a_t_coin t_size t_hidden t_towers x3 x1 r_15 hq_15) (cwV 2 hts gX3_nextOn_X3_hasRung rfl rfl rfl (by decide +kernel) ⟨Nat.le_of_ble_eq_true rfl, Nat.le_of_ble_eq_true rfl⟩) hK hP [0, 1] rfl rfl rfl rfl hl.1 rfl (Nat.le_of_ble_eq_true rfl) dX3_nextOn_15 ⟨Nat.le_of_ble_eq_true rfl, Nat.le_of_ble_eq_true rfl⟩ ?_
        refine lv_if_ne (tgt := 27) hx hb dX3_nextOn_18 (by decide) (fun c_18 => ?_) (fun c_18 => ?_)
        · have hF := iff_ hF c_18
          refine lv_iload_n hx hb dX3_nextOn_27 rfl (lv_at hl 3 rfl) ?_
          obtain e0_28 := inj1 hF
          rw [← e0_28] at hQ0
          rw [hQ0]
          exact W.iret (v := x3) hx hb hr (fun t ht hW => ⟨rfl, ht⟩) (fun _ h => nomatch h) dX3_nextOn_28
        · have hF := ift hF c_18
          refine lv_iinc (v := x3 + (1 : Int32)) (lv' := [(3, .int (x3 + (1 : Int32))), (0, .ref a_t), (1, .int x1), (2, .int x2)]) hx hb dX3_nextOn_21 hl (k := 3) rfl rfl (by decide) rfl (fun ls hl => ?_)
          refine lv_goto (tgt := 4) hx hb dX3_nextOn_24 (by decide) ?_
          exact ih x1 x2 (x3 + (1 : Int32)) hF ls (lv_sub hl [1, 2, 3, 0] rfl)
  refine W_entry hav (Nat.le_of_ble_eq_true rfl) (fun ls hl => ?_)
  have hl : lv_has ls 4 [(0, .ref a_t), (1, .int p1), (2, .int p2)] := hl
  refine lv_iload_n hx hb dX3_nextOn_0 rfl (lv_at hl 2 rfl) ?_
  refine lv_iconst (v := 1) hx hb dX3_nextOn_1 (by decide) ?_
  refine lv_iadd hx hb dX3_nextOn_2 ?_
  refine lv_istore_n (lv' := [(3, .int (p2 + (1 : Int32))), (0, .ref a_t), (1, .int p1), (2, .int p2)]) hx hb dX3_nextOn_3 rfl hl (by decide) rfl (fun ls hl => ?_)
  exact k_4 fl p1 p2 (p2 + (1 : Int32)) hF ls (lv_sub hl [1, 2, 3, 0] rfl)
def F_X3_previousOn_4 (fl : Nat) (t_size : Int32) (t_towers : Nat → Int32) : Nat → Int32 → Int32 → Int32 → Option (Int32)
  | 0, _, _, _ => none
  | n + 1, x1, x2, x3 => if x3 ≤ (-1 : Int32) then (some x3) else (bn (F_X3_hasRung fl t_size t_towers x3 x1) fun r_12 => if r_12 = 0 then (F_X3_previousOn_4 fl t_size t_towers n x1 x2 (x3 + (-1 : Int32))) else (some x3))
def F_X3_previousOn (fl : Nat) (t_size : Int32) (t_towers : Nat → Int32) (p1 : Int32) (p2 : Int32) : Option (Int32) := F_X3_previousOn_4 fl t_size t_towers fl p1 p2 (p2 - (1 : Int32))
set_option maxHeartbeats 4000000 in
set_option maxRecDepth 100000 in
theorem c_X3_previousOn (l : Launch) (D : va_G) (y : Nat → ClassId) (fl : Nat) (a_t : Nat) (a_t_keys : Nat) (a_t_weights : Nat) (a_t_towers : Nat) (a_t_coin : Nat) (t_size : Int32) (t_hidden : Int32) (t_towers : Nat → Int32) (p1 : Int32) (p2 : Int32) (r : Int32) (hF : F_X3_previousOn fl t_size t_towers p1 p2 = some r) : Met l yX3_previousOn wsX3_previousOn (rmq 2 43) (rdP D y [(a_t, .inr (7, [.ref a_t_keys, .ref a_t_weights, .ref a_t_towers, .ref a_t_coin, .int t_size, .int t_hidden])), (a_t_towers, .inl (y 0, 24, .inl t_towers))] [.ref a_t, .int p1, .int p2]) (QcRead r) 0 0 (fun _ => False) := by
  refine Met.ofW (cc := cX3_previousOn) (maxL := 4) (ret := (some .int)) (by decide) rfl ?_
  intro p e s m args below meth c s₁ B hml hv
  obtain ⟨hav, hP, hK⟩ := hv
  have hx := B.exec
  have hb := B.bytes
  have hr := B.returns
  have hts := atoms_spec (ws := wsX3_previousOn) B.pre
  have hown : s.vm.findClass RX3 = some m.cls := findClass_of_methodNamed B.named
  have hlocks := B.notSynchronized
  refine W_q (R1 := (rmq 2 43)) rfl (fun Q0 hQ0 => ?_)
  unfold F_X3_previousOn at hF
  have k_4 : ∀ (n : Nat) (x1 : Int32) (x2 : Int32) (x3 : Int32), F_X3_previousOn_4 fl t_size t_towers n x1 x2 x3 = some r → ∀ (ls : Array Slot), lv_has ls 4 [(0, .ref a_t), (1, .int x1), (2, .int x2), (3, .int x3)] → W p l e (rmq 2 43) s m args below meth c s.heap [] 0 0 Q0 (F0 m 4 ls []) := by
    intro n
    induction n with
    | zero => intro x1 x2 x3 hF; rw [F_X3_previousOn_4] at hF; cases hF
    | succ n ih =>
      intro x1 x2 x3 hF ls hl
      rw [F_X3_previousOn_4] at hF
      refine lv_iload_n hx hb dX3_previousOn_4 rfl (lv_at hl 3 rfl) ?_
      refine lv_iconst (v := -1) hx hb dX3_previousOn_5 (by decide) ?_
      refine lv_icmp_le (tgt := 24) hx hb dX3_previousOn_6 (by decide) (fun c_6 => ?_) (fun c_6 => ?_)
      · have hF := ift hF c_6
        refine lv_iload_n hx hb dX3_previousOn_24 rfl (lv_at hl 3 rfl) ?_
        obtain e0_25 := inj1 hF
        rw [← e0_25] at hQ0
        rw [hQ0]
        exact W.iret (v := x3) hx hb hr (fun t ht hW => ⟨rfl, ht⟩) (fun _ h => nomatch h) dX3_previousOn_25
      · have hF := iff_ hF c_6
        refine lv_aload_n hx hb dX3_previousOn_9 rfl (lv_at hl 0 rfl) ?_
        refine lv_iload_n hx hb dX3_previousOn_10 rfl (lv_at hl 3 rfl) ?_
        refine lv_iload_n hx hb dX3_previousOn_11 rfl (lv_at hl 1 rfl) ?_
        obtain ⟨r_12, hq_12, hF⟩ := bn_i hF
        refine cr_V (As := [.int x3, .int x1]) (rest := []) ⟨hx, hb, hml, hown, hts⟩ (c_X3_hasRung l D y fl a_t a_t_keys a_t_weights a_t_towers a_t_coin t_size t_hidden t_towers x3 x1 r_12 hq_12) (cwV 2 hts gX3_previousOn_X3_hasRung rfl rfl rfl (by decide +kernel) ⟨Nat.le_of_ble_eq_true rfl, Nat.le_of_ble_eq_true rfl⟩) hK hP [0, 1] rfl rfl rfl rfl hl.1 rfl (Nat.le_of_ble_eq_true rfl) dX3_previousOn_12 ⟨Nat.le_of_ble_eq_true rfl, Nat.le_of_ble_eq_true rfl⟩ ?_
        refine lv_if_ne (tgt := 24) hx hb dX3_previousOn_15 (by decide) (fun c_15 => ?_) (fun c_15 => ?_)
        · have hF := iff_ hF c_15
          refine lv_iload_n hx hb dX3_previousOn_24 rfl (lv_at hl 3 rfl) ?_
          obtain e0_25 := inj1 hF
          rw [← e0_25] at hQ0
          rw [hQ0]
          exact W.iret (v := x3) hx hb hr (fun t ht hW => ⟨rfl, ht⟩) (fun _ h => nomatch h) dX3_previousOn_25
        · have hF := ift hF c_15
          refine lv_iinc (v := x3 + (-1 : Int32)) (lv' := [(3, .int (x3 + (-1 : Int32))), (0, .ref a_t), (1, .int x1), (2, .int x2)]) hx hb dX3_previousOn_18 hl (k := 3) rfl rfl (by decide) rfl (fun ls hl => ?_)
          refine lv_goto (tgt := 4) hx hb dX3_previousOn_21 (by decide) ?_
          exact ih x1 x2 (x3 + (-1 : Int32)) hF ls (lv_sub hl [1, 2, 3, 0] rfl)
  refine W_entry hav (Nat.le_of_ble_eq_true rfl) (fun ls hl => ?_)
  have hl : lv_has ls 4 [(0, .ref a_t), (1, .int p1), (2, .int p2)] := hl
  refine lv_iload_n hx hb dX3_previousOn_0 rfl (lv_at hl 2 rfl) ?_
  refine lv_iconst (v := 1) hx hb dX3_previousOn_1 (by decide) ?_
  refine lv_isub hx hb dX3_previousOn_2 ?_
  refine lv_istore_n (lv' := [(3, .int (p2 - (1 : Int32))), (0, .ref a_t), (1, .int p1), (2, .int p2)]) hx hb dX3_previousOn_3 rfl hl (by decide) rfl (fun ls hl => ?_)
  exact k_4 fl p1 p2 (p2 - (1 : Int32)) hF ls (lv_sub hl [1, 2, 3, 0] rfl)
def F_X3_spanFrom (fl : Nat) (t_size : Int32) (t_towers : Nat → Int32) (p1 : Int32) (p2 : Int32) : Option (Int32) := bn (F_X3_nextOn fl t_size t_towers p2 p1) fun r_3 => some (r_3 - p1)
set_option maxHeartbeats 4000000 in
set_option maxRecDepth 100000 in
theorem c_X3_spanFrom (l : Launch) (D : va_G) (y : Nat → ClassId) (fl : Nat) (a_t : Nat) (a_t_keys : Nat) (a_t_weights : Nat) (a_t_towers : Nat) (a_t_coin : Nat) (t_size : Int32) (t_hidden : Int32) (t_towers : Nat → Int32) (p1 : Int32) (p2 : Int32) (r : Int32) (hF : F_X3_spanFrom fl t_size t_towers p1 p2 = some r) : Met l yX3_spanFrom wsX3_spanFrom (rmq 3 66) (rdP D y [(a_t, .inr (7, [.ref a_t_keys, .ref a_t_weights, .ref a_t_towers, .ref a_t_coin, .int t_size, .int t_hidden])), (a_t_towers, .inl (y 0, 24, .inl t_towers))] [.ref a_t, .int p1, .int p2]) (QcRead r) 0 0 (fun _ => False) := by
  refine Met.ofW (cc := cX3_spanFrom) (maxL := 3) (ret := (some .int)) (by decide) rfl ?_
  intro p e s m args below meth c s₁ B hml hv
  obtain ⟨hav, hP, hK⟩ := hv
  have hx := B.exec
  have hb := B.bytes
  have hr := B.returns
  have hts := atoms_spec (ws := wsX3_spanFrom) B.pre
  have hown : s.vm.findClass RX3 = some m.cls := findClass_of_methodNamed B.named
  have hlocks := B.notSynchronized
  refine W_q (R1 := (rmq 3 66)) rfl (fun Q0 hQ0 => ?_)
  unfold F_X3_spanFrom at hF
  refine W_entry hav (Nat.le_of_ble_eq_true rfl) (fun ls hl => ?_)
  have hl : lv_has ls 3 [(0, .ref a_t), (1, .int p1), (2, .int p2)] := hl
  refine lv_aload_n hx hb dX3_spanFrom_0 rfl (lv_at hl 0 rfl) ?_
  refine lv_iload_n hx hb dX3_spanFrom_1 rfl (lv_at hl 2 rfl) ?_
  refine lv_iload_n hx hb dX3_spanFrom_2 rfl (lv_at hl 1 rfl) ?_
  obtain ⟨r_3, hq_3, hF⟩ := bn_i hF
  refine cr_V (As := [.int p2, .int p1]) (rest := []) ⟨hx, hb, hml, hown, hts⟩ (c_X3_nextOn l D y fl a_t a_t_keys a_t_weights a_t_towers a_t_coin t_size t_hidden t_towers p2 p1 r_3 hq_3) (cwV 2 hts gX3_spanFrom_X3_nextOn rfl rfl rfl (by decide +kernel) ⟨Nat.le_of_ble_eq_true rfl, Nat.le_of_ble_eq_true rfl⟩) hK hP [0, 1] rfl rfl rfl rfl hl.1 rfl (Nat.le_of_ble_eq_true rfl) dX3_spanFrom_3 ⟨Nat.le_of_ble_eq_true rfl, Nat.le_of_ble_eq_true rfl⟩ ?_
  refine lv_iload_n hx hb dX3_spanFrom_6 rfl (lv_at hl 1 rfl) ?_
  refine lv_isub hx hb dX3_spanFrom_7 ?_
  obtain e0_8 := inj1 hF
  rw [← e0_8] at hQ0
  rw [hQ0]
  exact W.iret (v := r_3 - p1) hx hb hr (fun t ht hW => ⟨rfl, ht⟩) (fun _ h => nomatch h) dX3_spanFrom_8
def F_X3_foldersOn_4 (fl : Nat) (t_size : Int32) (t_towers : Nat → Int32) : Nat → Int32 → Int32 → Int32 → Option (Int32)
  | 0, _, _, _ => none
  | n + 1, x1, x2, x3 => if t_size ≤ x3 then (some x2) else (bn (F_X3_hasRung fl t_size t_towers x3 x1) fun r_15 => if r_15 = 0 then (F_X3_foldersOn_4 fl t_size t_towers n x1 x2 (x3 + (1 : Int32))) else (F_X3_foldersOn_4 fl t_size t_towers n x1 (x2 + (1 : Int32)) (x3 + (1 : Int32))))
def F_X3_foldersOn (fl : Nat) (t_size : Int32) (t_towers : Nat → Int32) (p1 : Int32) : Option (Int32) := F_X3_foldersOn_4 fl t_size t_towers fl p1 (0 : Int32) (0 : Int32)
theorem iX3_foldersOn_X3 : ∀ w ∈ u_ws RX3 TX3 6, w ∈ wsX3_foldersOn := fun w h => List.mem_cons_of_mem _ (List.mem_append_left _ (List.mem_append_right _ h))
set_option maxHeartbeats 4000000 in
set_option maxRecDepth 100000 in
theorem c_X3_foldersOn (l : Launch) (D : va_G) (y : Nat → ClassId) (fl : Nat) (a_t : Nat) (a_t_keys : Nat) (a_t_weights : Nat) (a_t_towers : Nat) (a_t_coin : Nat) (t_size : Int32) (t_hidden : Int32) (t_towers : Nat → Int32) (p1 : Int32) (r : Int32) (hF : F_X3_foldersOn fl t_size t_towers p1 = some r) : Met l yX3_foldersOn wsX3_foldersOn (rmq 2 43) (rdP D y [(a_t, .inr (7, [.ref a_t_keys, .ref a_t_weights, .ref a_t_towers, .ref a_t_coin, .int t_size, .int t_hidden])), (a_t_towers, .inl (y 0, 24, .inl t_towers))] [.ref a_t, .int p1]) (QcRead r) 0 0 (fun _ => False) := by
  refine Met.ofW (cc := cX3_foldersOn) (maxL := 4) (ret := (some .int)) (by decide) rfl ?_
  intro p e s m args below meth c s₁ B hml hv
  obtain ⟨hav, hP, hK⟩ := hv
  have hx := B.exec
  have hb := B.bytes
  have hr := B.returns
  have hts := atoms_spec (ws := wsX3_foldersOn) B.pre
  have hown : s.vm.findClass RX3 = some m.cls := findClass_of_methodNamed B.named
  have hlocks := B.notSynchronized
  refine W_q (R1 := (rmq 2 43)) rfl (fun Q0 hQ0 => ?_)
  unfold F_X3_foldersOn at hF
  have k_4 : ∀ (n : Nat) (x1 : Int32) (x2 : Int32) (x3 : Int32), F_X3_foldersOn_4 fl t_size t_towers n x1 x2 x3 = some r → ∀ (ls : Array Slot), lv_has ls 4 [(0, .ref a_t), (1, .int x1), (2, .int x2), (3, .int x3)] → W p l e (rmq 2 43) s m args below meth c s.heap [] 0 0 Q0 (F0 m 4 ls []) := by
    intro n
    induction n with
    | zero => intro x1 x2 x3 hF; rw [F_X3_foldersOn_4] at hF; cases hF
    | succ n ih =>
      intro x1 x2 x3 hF ls hl
      rw [F_X3_foldersOn_4] at hF
      refine lv_iload_n hx hb dX3_foldersOn_4 rfl (lv_at hl 3 rfl) ?_
      refine lv_aload_n hx hb dX3_foldersOn_5 rfl (lv_at hl 0 rfl) ?_
      refine va_get (D := D) (ci := 7) (v := .int t_size) (C := RX3) (T := TX3) (N := 6) hx hb hts iX3_foldersOn_X3 hown hK hP 0 rfl rfl 4 (by decide) (hts (.fieldLink RX3 28 "SkipArchive$Ladder" "size" "I") (List.mem_of_getElem? (i := 1) rfl)) (fun _ h9 => h9) rfl dX3_foldersOn_6 ?_
      refine lv_icmp_ge (tgt := 30) hx hb dX3_foldersOn_9 (by decide) (fun c_9 => ?_) (fun c_9 => ?_)
      · have hF := ift hF c_9
        refine lv_iload_n hx hb dX3_foldersOn_30 rfl (lv_at hl 2 rfl) ?_
        obtain e0_31 := inj1 hF
        rw [← e0_31] at hQ0
        rw [hQ0]
        exact W.iret (v := x2) hx hb hr (fun t ht hW => ⟨rfl, ht⟩) (fun _ h => nomatch h) dX3_foldersOn_31
      · have hF := iff_ hF c_9
        refine lv_aload_n hx hb dX3_foldersOn_12 rfl (lv_at hl 0 rfl) ?_
        refine lv_iload_n hx hb dX3_foldersOn_13 rfl (lv_at hl 3 rfl) ?_
        refine lv_iload_n hx hb dX3_foldersOn_14 rfl (lv_at hl 1 rfl) ?_
        obtain ⟨r_15, hq_15, hF⟩ := bn_i hF
        refine cr_V (As := [.int x3, .int x1]) (rest := []) ⟨hx, hb, hml, hown, hts⟩ (c_X3_hasRung l D y fl a_t a_t_keys a_t_weights a_t_towers a_t_coin t_size t_hidden t_towers x3 x1 r_15 hq_15) (cwV 2 hts gX3_foldersOn_X3_hasRung rfl rfl rfl (by decide +kernel) ⟨Nat.le_of_ble_eq_true rfl, Nat.le_of_ble_eq_true rfl⟩) hK hP [0, 1] rfl rfl rfl rfl hl.1 rfl (Nat.le_of_ble_eq_true rfl) dX3_foldersOn_15 ⟨Nat.le_of_ble_eq_true rfl, Nat.le_of_ble_eq_true rfl⟩ ?_
        refine lv_if_eq (tgt := 24) hx hb dX3_foldersOn_18 (by decide) (fun c_18 => ?_) (fun c_18 => ?_)
        · have hF := ift hF c_18
          refine lv_iinc (v := x3 + (1 : Int32)) (lv' := [(3, .int (x3 + (1 : Int32))), (0, .ref a_t), (1, .int x1), (2, .int x2)]) hx hb dX3_foldersOn_24 hl (k := 3) rfl rfl (by decide) rfl (fun ls hl => ?_)
          refine lv_goto (tgt := 4) hx hb dX3_foldersOn_27 (by decide) ?_
          exact ih x1 x2 (x3 + (1 : Int32)) hF ls (lv_sub hl [1, 2, 3, 0] rfl)
        · have hF := iff_ hF c_18
          refine lv_iinc (v := x2 + (1 : Int32)) (lv' := [(2, .int (x2 + (1 : Int32))), (0, .ref a_t), (1, .int x1), (3, .int x3)]) hx hb dX3_foldersOn_21 hl (k := 2) rfl rfl (by decide) rfl (fun ls hl => ?_)
          refine lv_iinc (v := x3 + (1 : Int32)) (lv' := [(3, .int (x3 + (1 : Int32))), (2, .int (x2 + (1 : Int32))), (0, .ref a_t), (1, .int x1)]) hx hb dX3_foldersOn_24 hl (k := 3) rfl rfl (by decide) rfl (fun ls hl => ?_)
          refine lv_goto (tgt := 4) hx hb dX3_foldersOn_27 (by decide) ?_
          exact ih x1 (x2 + (1 : Int32)) (x3 + (1 : Int32)) hF ls (lv_sub hl [2, 3, 1, 0] rfl)
  refine W_entry hav (Nat.le_of_ble_eq_true rfl) (fun ls hl => ?_)
  have hl : lv_has ls 4 [(0, .ref a_t), (1, .int p1)] := hl
  refine lv_iconst (v := 0) hx hb dX3_foldersOn_0 (by decide) ?_
  refine lv_istore_n (lv' := [(2, .int (0 : Int32)), (0, .ref a_t), (1, .int p1)]) hx hb dX3_foldersOn_1 rfl hl (by decide) rfl (fun ls hl => ?_)
  refine lv_iconst (v := 0) hx hb dX3_foldersOn_2 (by decide) ?_
  refine lv_istore_n (lv' := [(3, .int (0 : Int32)), (2, .int (0 : Int32)), (0, .ref a_t), (1, .int p1)]) hx hb dX3_foldersOn_3 rfl hl (by decide) rfl (fun ls hl => ?_)
  exact k_4 fl p1 (0 : Int32) (0 : Int32) hF ls (lv_sub hl [2, 3, 1, 0] rfl)
def F_X3_highestLevel_4 (fl : Nat) (t_size : Int32) (t_towers : Nat → Int32) : Nat → Int32 → Int32 → Option (Int32)
  | 0, _, _ => none
  | n + 1, x1, x2 => if t_size ≤ x2 then (some (x1 - (1 : Int32))) else (bn (F_X3_rungsOf fl t_size t_towers x2) fun r_15 => F_X3_highestLevel_4 fl t_size t_towers n (if x1 < r_15 then r_15 else x1) (x2 + (1 : Int32)))
def F_X3_highestLevel (fl : Nat) (t_size : Int32) (t_towers : Nat → Int32) : Option (Int32) := F_X3_highestLevel_4 fl t_size t_towers fl (0 : Int32) (0 : Int32)
theorem iX3_highestLevel_X3 : ∀ w ∈ u_ws RX3 TX3 6, w ∈ wsX3_highestLevel := fun w h => List.mem_cons_of_mem _ (List.mem_append_left _ (List.mem_append_right _ h))
set_option maxHeartbeats 4000000 in
set_option maxRecDepth 100000 in
theorem c_X3_highestLevel (l : Launch) (D : va_G) (y : Nat → ClassId) (fl : Nat) (a_t : Nat) (a_t_keys : Nat) (a_t_weights : Nat) (a_t_towers : Nat) (a_t_coin : Nat) (t_size : Int32) (t_hidden : Int32) (t_towers : Nat → Int32) (r : Int32) (hF : F_X3_highestLevel fl t_size t_towers = some r) : Met l yX3_highestLevel wsX3_highestLevel (rmq 2 42) (rdP D y [(a_t, .inr (7, [.ref a_t_keys, .ref a_t_weights, .ref a_t_towers, .ref a_t_coin, .int t_size, .int t_hidden])), (a_t_towers, .inl (y 0, 24, .inl t_towers))] [.ref a_t]) (QcRead r) 0 0 (fun _ => False) := by
  refine Met.ofW (cc := cX3_highestLevel) (maxL := 3) (ret := (some .int)) (by decide) rfl ?_
  intro p e s m args below meth c s₁ B hml hv
  obtain ⟨hav, hP, hK⟩ := hv
  have hx := B.exec
  have hb := B.bytes
  have hr := B.returns
  have hts := atoms_spec (ws := wsX3_highestLevel) B.pre
  have hown : s.vm.findClass RX3 = some m.cls := findClass_of_methodNamed B.named
  have hlocks := B.notSynchronized
  refine W_q (R1 := (rmq 2 42)) rfl (fun Q0 hQ0 => ?_)
  unfold F_X3_highestLevel at hF
  have k_4 : ∀ (n : Nat) (x1 : Int32) (x2 : Int32), F_X3_highestLevel_4 fl t_size t_towers n x1 x2 = some r → ∀ (ls : Array Slot), lv_has ls 3 [(0, .ref a_t), (1, .int x1), (2, .int x2)] → W p l e (rmq 2 42) s m args below meth c s.heap [] 0 0 Q0 (F0 m 4 ls []) := by
    intro n
    induction n with
    | zero => intro x1 x2 hF; rw [F_X3_highestLevel_4] at hF; cases hF
    | succ n ih =>
      intro x1 x2 hF ls hl
      rw [F_X3_highestLevel_4] at hF
      refine lv_iload_n hx hb dX3_highestLevel_4 rfl (lv_at hl 2 rfl) ?_
      refine lv_aload_n hx hb dX3_highestLevel_5 rfl (lv_at hl 0 rfl) ?_
      refine va_get (D := D) (ci := 7) (v := .int t_size) (C := RX3) (T := TX3) (N := 6) hx hb hts iX3_highestLevel_X3 hown hK hP 0 rfl rfl 4 (by decide) (hts (.fieldLink RX3 28 "SkipArchive$Ladder" "size" "I") (List.mem_of_getElem? (i := 1) rfl)) (fun _ h9 => h9) rfl dX3_highestLevel_6 ?_
      refine lv_icmp_ge (tgt := 28) hx hb dX3_highestLevel_9 (by decide) (fun c_9 => ?_) (fun c_9 => ?_)
      · have hF := ift hF c_9
        refine lv_iload_n hx hb dX3_highestLevel_28 rfl (lv_at hl 1 rfl) ?_
        refine lv_iconst (v := 1) hx hb dX3_highestLevel_29 (by decide) ?_
        refine lv_isub hx hb dX3_highestLevel_30 ?_
        obtain e0_31 := inj1 hF
        rw [← e0_31] at hQ0
        rw [hQ0]
        exact W.iret (v := x1 - (1 : Int32)) hx hb hr (fun t ht hW => ⟨rfl, ht⟩) (fun _ h => nomatch h) dX3_highestLevel_31
      · have hF := iff_ hF c_9
        refine lv_iload_n hx hb dX3_highestLevel_12 rfl (lv_at hl 1 rfl) ?_
        refine lv_aload_n hx hb dX3_highestLevel_13 rfl (lv_at hl 0 rfl) ?_
        refine lv_iload_n hx hb dX3_highestLevel_14 rfl (lv_at hl 2 rfl) ?_
        obtain ⟨r_15, hq_15, hF⟩ := bn_i hF
        refine cr_V (As := [.int x2]) (rest := [.int x1]) ⟨hx, hb, hml, hown, hts⟩ (c_X3_rungsOf l D y fl a_t a_t_keys a_t_weights a_t_towers a_t_coin t_size t_hidden t_towers x2 r_15 hq_15) (cwV 1 hts gX3_highestLevel_X3_rungsOf rfl rfl rfl (by decide +kernel) ⟨Nat.le_of_ble_eq_true rfl, Nat.le_of_ble_eq_true rfl⟩) hK hP [0, 1] rfl rfl rfl rfl hl.1 rfl (Nat.le_of_ble_eq_true rfl) dX3_highestLevel_15 ⟨Nat.le_of_ble_eq_true rfl, Nat.le_of_ble_eq_true rfl⟩ ?_
        refine va_mmax hx hb (hml.trans hl.1.symm) hown (hts (.methodLink RX3 78 Lib.Math.max.name) (by decide +kernel)) (hts (.static Lib.Math.max.name) (by decide +kernel)) (hts (.initialized "java/lang/Math") (by decide +kernel)) (hts (.code Lib.Math.max.name Lib.Math.max.code 2 (some .int)) (by decide +kernel)) (Nat.le_of_ble_eq_true rfl) (Nat.le_of_ble_eq_true rfl) (Nat.le_of_ble_eq_true rfl) (Nat.le_of_ble_eq_true rfl) dX3_highestLevel_18 ?_
        refine lv_istore_n (lv' := [(1, .int (if x1 < r_15 then r_15 else x1)), (0, .ref a_t), (2, .int x2)]) hx hb dX3_highestLevel_21 rfl hl (by decide) rfl (fun ls hl => ?_)
        refine lv_iinc (v := x2 + (1 : Int32)) (lv' := [(2, .int (x2 + (1 : Int32))), (1, .int (if x1 < r_15 then r_15 else x1)), (0, .ref a_t)]) hx hb dX3_highestLevel_22 hl (k := 2) rfl rfl (by decide) rfl (fun ls hl => ?_)
        refine lv_goto (tgt := 4) hx hb dX3_highestLevel_25 (by decide) ?_
        exact ih (if x1 < r_15 then r_15 else x1) (x2 + (1 : Int32)) hF ls (lv_sub hl [2, 1, 0] rfl)
  refine W_entry hav (Nat.le_of_ble_eq_true rfl) (fun ls hl => ?_)
  have hl : lv_has ls 3 [(0, .ref a_t)] := hl
  refine lv_iconst (v := 0) hx hb dX3_highestLevel_0 (by decide) ?_
  refine lv_istore_n (lv' := [(1, .int (0 : Int32)), (0, .ref a_t)]) hx hb dX3_highestLevel_1 rfl hl (by decide) rfl (fun ls hl => ?_)
  refine lv_iconst (v := 0) hx hb dX3_highestLevel_2 (by decide) ?_
  refine lv_istore_n (lv' := [(2, .int (0 : Int32)), (1, .int (0 : Int32)), (0, .ref a_t)]) hx hb dX3_highestLevel_3 rfl hl (by decide) rfl (fun ls hl => ?_)
  exact k_4 fl (0 : Int32) (0 : Int32) hF ls (lv_sub hl [2, 1, 0] rfl)
def F_X3_allRungs_4 (fl : Nat) (t_size : Int32) (t_towers : Nat → Int32) : Nat → Int32 → Int32 → Option (Int32)
  | 0, _, _ => none
  | n + 1, x1, x2 => if t_size ≤ x2 then (some x1) else (bn (F_X3_rungsOf fl t_size t_towers x2) fun r_15 => F_X3_allRungs_4 fl t_size t_towers n (x1 + r_15) (x2 + (1 : Int32)))
def F_X3_allRungs (fl : Nat) (t_size : Int32) (t_towers : Nat → Int32) : Option (Int32) := F_X3_allRungs_4 fl t_size t_towers fl (0 : Int32) (0 : Int32)
theorem iX3_allRungs_X3 : ∀ w ∈ u_ws RX3 TX3 6, w ∈ wsX3_allRungs := fun w h => List.mem_cons_of_mem _ (List.mem_append_left _ (List.mem_append_right _ h))
set_option maxHeartbeats 4000000 in
set_option maxRecDepth 100000 in
theorem c_X3_allRungs (l : Launch) (D : va_G) (y : Nat → ClassId) (fl : Nat) (a_t : Nat) (a_t_keys : Nat) (a_t_weights : Nat) (a_t_towers : Nat) (a_t_coin : Nat) (t_size : Int32) (t_hidden : Int32) (t_towers : Nat → Int32) (r : Int32) (hF : F_X3_allRungs fl t_size t_towers = some r) : Met l yX3_allRungs wsX3_allRungs (rmq 2 42) (rdP D y [(a_t, .inr (7, [.ref a_t_keys, .ref a_t_weights, .ref a_t_towers, .ref a_t_coin, .int t_size, .int t_hidden])), (a_t_towers, .inl (y 0, 24, .inl t_towers))] [.ref a_t]) (QcRead r) 0 0 (fun _ => False) := by
  refine Met.ofW (cc := cX3_allRungs) (maxL := 3) (ret := (some .int)) (by decide) rfl ?_
  intro p e s m args below meth c s₁ B hml hv
  obtain ⟨hav, hP, hK⟩ := hv
  have hx := B.exec
  have hb := B.bytes
  have hr := B.returns
  have hts := atoms_spec (ws := wsX3_allRungs) B.pre
  have hown : s.vm.findClass RX3 = some m.cls := findClass_of_methodNamed B.named
  have hlocks := B.notSynchronized
  refine W_q (R1 := (rmq 2 42)) rfl (fun Q0 hQ0 => ?_)
  unfold F_X3_allRungs at hF
  have k_4 : ∀ (n : Nat) (x1 : Int32) (x2 : Int32), F_X3_allRungs_4 fl t_size t_towers n x1 x2 = some r → ∀ (ls : Array Slot), lv_has ls 3 [(0, .ref a_t), (1, .int x1), (2, .int x2)] → W p l e (rmq 2 42) s m args below meth c s.heap [] 0 0 Q0 (F0 m 4 ls []) := by
    intro n
    induction n with
    | zero => intro x1 x2 hF; rw [F_X3_allRungs_4] at hF; cases hF
    | succ n ih =>
      intro x1 x2 hF ls hl
      rw [F_X3_allRungs_4] at hF
      refine lv_iload_n hx hb dX3_allRungs_4 rfl (lv_at hl 2 rfl) ?_
      refine lv_aload_n hx hb dX3_allRungs_5 rfl (lv_at hl 0 rfl) ?_
      refine va_get (D := D) (ci := 7) (v := .int t_size) (C := RX3) (T := TX3) (N := 6) hx hb hts iX3_allRungs_X3 hown hK hP 0 rfl rfl 4 (by decide) (hts (.fieldLink RX3 28 "SkipArchive$Ladder" "size" "I") (List.mem_of_getElem? (i := 1) rfl)) (fun _ h9 => h9) rfl dX3_allRungs_6 ?_
      refine lv_icmp_ge (tgt := 26) hx hb dX3_allRungs_9 (by decide) (fun c_9 => ?_) (fun c_9 => ?_)
      · have hF := ift hF c_9
        refine lv_iload_n hx hb dX3_allRungs_26 rfl (lv_at hl 1 rfl) ?_
        obtain e0_27 := inj1 hF
        rw [← e0_27] at hQ0
        rw [hQ0]
        exact W.iret (v := x1) hx hb hr (fun t ht hW => ⟨rfl, ht⟩) (fun _ h => nomatch h) dX3_allRungs_27
      · have hF := iff_ hF c_9
        refine lv_iload_n hx hb dX3_allRungs_12 rfl (lv_at hl 1 rfl) ?_
        refine lv_aload_n hx hb dX3_allRungs_13 rfl (lv_at hl 0 rfl) ?_
        refine lv_iload_n hx hb dX3_allRungs_14 rfl (lv_at hl 2 rfl) ?_
        obtain ⟨r_15, hq_15, hF⟩ := bn_i hF
        refine cr_V (As := [.int x2]) (rest := [.int x1]) ⟨hx, hb, hml, hown, hts⟩ (c_X3_rungsOf l D y fl a_t a_t_keys a_t_weights a_t_towers a_t_coin t_size t_hidden t_towers x2 r_15 hq_15) (cwV 1 hts gX3_allRungs_X3_rungsOf rfl rfl rfl (by decide +kernel) ⟨Nat.le_of_ble_eq_true rfl, Nat.le_of_ble_eq_true rfl⟩) hK hP [0, 1] rfl rfl rfl rfl hl.1 rfl (Nat.le_of_ble_eq_true rfl) dX3_allRungs_15 ⟨Nat.le_of_ble_eq_true rfl, Nat.le_of_ble_eq_true rfl⟩ ?_
        refine lv_iadd hx hb dX3_allRungs_18 ?_
        refine lv_istore_n (lv' := [(1, .int (x1 + r_15)), (0, .ref a_t), (2, .int x2)]) hx hb dX3_allRungs_19 rfl hl (by decide) rfl (fun ls hl => ?_)
        refine lv_iinc (v := x2 + (1 : Int32)) (lv' := [(2, .int (x2 + (1 : Int32))), (1, .int (x1 + r_15)), (0, .ref a_t)]) hx hb dX3_allRungs_20 hl (k := 2) rfl rfl (by decide) rfl (fun ls hl => ?_)
        refine lv_goto (tgt := 4) hx hb dX3_allRungs_23 (by decide) ?_
        exact ih (x1 + r_15) (x2 + (1 : Int32)) hF ls (lv_sub hl [2, 1, 0] rfl)
  refine W_entry hav (Nat.le_of_ble_eq_true rfl) (fun ls hl => ?_)
  have hl : lv_has ls 3 [(0, .ref a_t)] := hl
  refine lv_iconst (v := 0) hx hb dX3_allRungs_0 (by decide) ?_
  refine lv_istore_n (lv' := [(1, .int (0 : Int32)), (0, .ref a_t)]) hx hb dX3_allRungs_1 rfl hl (by decide) rfl (fun ls hl => ?_)
  refine lv_iconst (v := 0) hx hb dX3_allRungs_2 (by decide) ?_
  refine lv_istore_n (lv' := [(2, .int (0 : Int32)), (1, .int (0 : Int32)), (0, .ref a_t)]) hx hb dX3_allRungs_3 rfl hl (by decide) rfl (fun ls hl => ?_)
  exact k_4 fl (0 : Int32) (0 : Int32) hF ls (lv_sub hl [2, 1, 0] rfl)
def F_X3_allWeights_4 (fl : Nat) (t_size : Int32) (t_weights : Nat → Int32) : Nat → Int32 → Int32 → Option (Int32)
  | 0, _, _ => none
  | n + 1, x1, x2 => if t_size ≤ x2 then (some x1) else (bn (F_X3_weightOf fl t_size t_weights x2) fun r_15 => F_X3_allWeights_4 fl t_size t_weights n (x1 + r_15) (x2 + (1 : Int32)))
def F_X3_allWeights (fl : Nat) (t_size : Int32) (t_weights : Nat → Int32) : Option (Int32) := F_X3_allWeights_4 fl t_size t_weights fl (0 : Int32) (0 : Int32)
theorem iX3_allWeights_X3 : ∀ w ∈ u_ws RX3 TX3 6, w ∈ wsX3_allWeights := fun w h => List.mem_cons_of_mem _ (List.mem_append_left _ (List.mem_append_right _ h))
set_option maxHeartbeats 4000000 in
set_option maxRecDepth 100000 in
theorem c_X3_allWeights (l : Launch) (D : va_G) (y : Nat → ClassId) (fl : Nat) (a_t : Nat) (a_t_keys : Nat) (a_t_weights : Nat) (a_t_towers : Nat) (a_t_coin : Nat) (t_size : Int32) (t_hidden : Int32) (t_weights : Nat → Int32) (r : Int32) (hF : F_X3_allWeights fl t_size t_weights = some r) : Met l yX3_allWeights wsX3_allWeights (rmq 2 42) (rdP D y [(a_t, .inr (7, [.ref a_t_keys, .ref a_t_weights, .ref a_t_towers, .ref a_t_coin, .int t_size, .int t_hidden])), (a_t_weights, .inl (y 0, 24, .inl t_weights))] [.ref a_t]) (QcRead r) 0 0 (fun _ => False) := by
  refine Met.ofW (cc := cX3_allWeights) (maxL := 3) (ret := (some .int)) (by decide) rfl ?_
  intro p e s m args below meth c s₁ B hml hv
  obtain ⟨hav, hP, hK⟩ := hv
  have hx := B.exec
  have hb := B.bytes
  have hr := B.returns
  have hts := atoms_spec (ws := wsX3_allWeights) B.pre
  have hown : s.vm.findClass RX3 = some m.cls := findClass_of_methodNamed B.named
  have hlocks := B.notSynchronized
  refine W_q (R1 := (rmq 2 42)) rfl (fun Q0 hQ0 => ?_)
  unfold F_X3_allWeights at hF
  have k_4 : ∀ (n : Nat) (x1 : Int32) (x2 : Int32), F_X3_allWeights_4 fl t_size t_weights n x1 x2 = some r → ∀ (ls : Array Slot), lv_has ls 3 [(0, .ref a_t), (1, .int x1), (2, .int x2)] → W p l e (rmq 2 42) s m args below meth c s.heap [] 0 0 Q0 (F0 m 4 ls []) := by
    intro n
    induction n with
    | zero => intro x1 x2 hF; rw [F_X3_allWeights_4] at hF; cases hF
    | succ n ih =>
      intro x1 x2 hF ls hl
      rw [F_X3_allWeights_4] at hF
      refine lv_iload_n hx hb dX3_allWeights_4 rfl (lv_at hl 2 rfl) ?_
      refine lv_aload_n hx hb dX3_allWeights_5 rfl (lv_at hl 0 rfl) ?_
      refine va_get (D := D) (ci := 7) (v := .int t_size) (C := RX3) (T := TX3) (N := 6) hx hb hts iX3_allWeights_X3 hown hK hP 0 rfl rfl 4 (by decide) (hts (.fieldLink RX3 28 "SkipArchive$Ladder" "size" "I") (List.mem_of_getElem? (i := 1) rfl)) (fun _ h9 => h9) rfl dX3_allWeights_6 ?_
      refine lv_icmp_ge (tgt := 26) hx hb dX3_allWeights_9 (by decide) (fun c_9 => ?_) (fun c_9 => ?_)
      · have hF := ift hF c_9
        refine lv_iload_n hx hb dX3_allWeights_26 rfl (lv_at hl 1 rfl) ?_
        obtain e0_27 := inj1 hF
        rw [← e0_27] at hQ0
        rw [hQ0]
        exact W.iret (v := x1) hx hb hr (fun t ht hW => ⟨rfl, ht⟩) (fun _ h => nomatch h) dX3_allWeights_27
      · have hF := iff_ hF c_9
        refine lv_iload_n hx hb dX3_allWeights_12 rfl (lv_at hl 1 rfl) ?_
        refine lv_aload_n hx hb dX3_allWeights_13 rfl (lv_at hl 0 rfl) ?_
        refine lv_iload_n hx hb dX3_allWeights_14 rfl (lv_at hl 2 rfl) ?_
        obtain ⟨r_15, hq_15, hF⟩ := bn_i hF
        refine cr_V (As := [.int x2]) (rest := [.int x1]) ⟨hx, hb, hml, hown, hts⟩ (c_X3_weightOf l D y fl a_t a_t_keys a_t_weights a_t_towers a_t_coin t_size t_hidden t_weights x2 r_15 hq_15) (cwV 1 hts gX3_allWeights_X3_weightOf rfl rfl rfl (by decide +kernel) ⟨Nat.le_of_ble_eq_true rfl, Nat.le_of_ble_eq_true rfl⟩) hK hP [0, 1] rfl rfl rfl rfl hl.1 rfl (Nat.le_of_ble_eq_true rfl) dX3_allWeights_15 ⟨Nat.le_of_ble_eq_true rfl, Nat.le_of_ble_eq_true rfl⟩ ?_
        refine lv_iadd hx hb dX3_allWeights_18 ?_
        refine lv_istore_n (lv' := [(1, .int (x1 + r_15)), (0, .ref a_t), (2, .int x2)]) hx hb dX3_allWeights_19 rfl hl (by decide) rfl (fun ls hl => ?_)
        refine lv_iinc (v := x2 + (1 : Int32)) (lv' := [(2, .int (x2 + (1 : Int32))), (1, .int (x1 + r_15)), (0, .ref a_t)]) hx hb dX3_allWeights_20 hl (k := 2) rfl rfl (by decide) rfl (fun ls hl => ?_)
        refine lv_goto (tgt := 4) hx hb dX3_allWeights_23 (by decide) ?_
        exact ih (x1 + r_15) (x2 + (1 : Int32)) hF ls (lv_sub hl [2, 1, 0] rfl)
  refine W_entry hav (Nat.le_of_ble_eq_true rfl) (fun ls hl => ?_)
  have hl : lv_has ls 3 [(0, .ref a_t)] := hl
  refine lv_iconst (v := 0) hx hb dX3_allWeights_0 (by decide) ?_
  refine lv_istore_n (lv' := [(1, .int (0 : Int32)), (0, .ref a_t)]) hx hb dX3_allWeights_1 rfl hl (by decide) rfl (fun ls hl => ?_)
  refine lv_iconst (v := 0) hx hb dX3_allWeights_2 (by decide) ?_
  refine lv_istore_n (lv' := [(2, .int (0 : Int32)), (1, .int (0 : Int32)), (0, .ref a_t)]) hx hb dX3_allWeights_3 rfl hl (by decide) rfl (fun ls hl => ?_)
  exact k_4 fl (0 : Int32) (0 : Int32) hF ls (lv_sub hl [2, 1, 0] rfl)
def F_X3_isHidden (fl : Nat) (t_hidden : Int32) (p1 : Int32) : Option (Int32) := if ((t_hidden >>> (p1 &&& 31)) &&& (1 : Int32)) = (1 : Int32) then (some (1 : Int32)) else (some (0 : Int32))
theorem iX3_isHidden_X3 : ∀ w ∈ u_ws RX3 TX3 6, w ∈ wsX3_isHidden := fun w h => List.mem_cons_of_mem _ (List.mem_append_right _ h)
set_option maxHeartbeats 4000000 in
set_option maxRecDepth 100000 in
theorem c_X3_isHidden (l : Launch) (D : va_G) (y : Nat → ClassId) (fl : Nat) (a_t : Nat) (a_t_keys : Nat) (a_t_weights : Nat) (a_t_towers : Nat) (a_t_coin : Nat) (t_size : Int32) (t_hidden : Int32) (p1 : Int32) (r : Int32) (hF : F_X3_isHidden fl t_hidden p1 = some r) : Met l yX3_isHidden wsX3_isHidden (rmq 0 0) (rdP D y [(a_t, .inr (7, [.ref a_t_keys, .ref a_t_weights, .ref a_t_towers, .ref a_t_coin, .int t_size, .int t_hidden]))] [.ref a_t, .int p1]) (QcRead r) 0 0 (fun _ => False) := by
  refine Met.ofW (cc := cX3_isHidden) (maxL := 2) (ret := (some .boolean)) (by decide) rfl ?_
  intro p e s m args below meth c s₁ B hml hv
  obtain ⟨hav, hP, hK⟩ := hv
  have hx := B.exec
  have hb := B.bytes
  have hr := B.returns
  have hts := atoms_spec (ws := wsX3_isHidden) B.pre
  have hown : s.vm.findClass RX3 = some m.cls := findClass_of_methodNamed B.named
  have hlocks := B.notSynchronized
  refine W_q (R1 := (rmq 0 0)) rfl (fun Q0 hQ0 => ?_)
  unfold F_X3_isHidden at hF
  refine W_entry hav (Nat.le_of_ble_eq_true rfl) (fun ls hl => ?_)
  have hl : lv_has ls 2 [(0, .ref a_t), (1, .int p1)] := hl
  refine lv_aload_n hx hb dX3_isHidden_0 rfl (lv_at hl 0 rfl) ?_
  refine va_get (D := D) (ci := 7) (v := .int t_hidden) (C := RX3) (T := TX3) (N := 6) hx hb hts iX3_isHidden_X3 hown hK hP 0 rfl rfl 5 (by decide) (hts (.fieldLink RX3 32 "SkipArchive$Ladder" "hidden" "I") (List.mem_of_getElem? (i := 1) rfl)) (fun _ h9 => h9) rfl dX3_isHidden_1 ?_
  refine lv_iload_n hx hb dX3_isHidden_4 rfl (lv_at hl 1 rfl) ?_
  refine lv_ishr hx hb dX3_isHidden_5 ?_
  refine lv_iconst (v := 1) hx hb dX3_isHidden_6 (by decide) ?_
  refine lv_iand hx hb dX3_isHidden_7 ?_
  refine lv_iconst (v := 1) hx hb dX3_isHidden_8 (by decide) ?_
  refine lv_icmp_ne (tgt := 16) hx hb dX3_isHidden_9 (by decide) (fun c_9 => ?_) (fun c_9 => ?_)
  · have hF := iff_ hF c_9
    refine lv_iconst (v := 0) hx hb dX3_isHidden_16 (by decide) ?_
    obtain e0_17 := inj1 hF
    rw [← e0_17] at hQ0
    rw [hQ0]
    exact W.zret (v := (0 : Int32)) hx hb hr (by decide +kernel) (fun t ht hW => ⟨rfl, ht⟩) (fun _ h => nomatch h) dX3_isHidden_17
  · have hF := ift hF c_9
    refine lv_iconst (v := 1) hx hb dX3_isHidden_12 (by decide) ?_
    refine lv_goto (tgt := 17) hx hb dX3_isHidden_13 (by decide) ?_
    obtain e0_17 := inj1 hF
    rw [← e0_17] at hQ0
    rw [hQ0]
    exact W.zret (v := (1 : Int32)) hx hb hr (by decide +kernel) (fun t ht hW => ⟨rfl, ht⟩) (fun _ h => nomatch h) dX3_isHidden_17
def F_X3_hide (fl : Nat) (t_hidden : Int32) (p1 : Int32) : Option (Int32) := some (t_hidden ||| ((1 : Int32) <<< (p1 &&& 31)))
theorem iX3_hide_X3 : ∀ w ∈ u_ws RX3 TX3 6, w ∈ wsX3_hide := fun w h => List.mem_cons_of_mem _ (List.mem_append_right _ h)
set_option maxHeartbeats 4000000 in
set_option maxRecDepth 100000 in
theorem c_X3_hide (l : Launch) (D : va_G) (y : Nat → ClassId) (fl : Nat) (sz : Nat) (a_t : Nat) (a_t_keys : Nat) (a_t_weights : Nat) (a_t_towers : Nat) (a_t_coin : Nat) (t_size : Int32) (t_hidden : Int32) (p1 : Int32) (t_hidden' : Int32) (hF : F_X3_hide fl t_hidden p1 = some t_hidden') : Met l yX3_hide wsX3_hide (rmq 0 0) (wrP D y [(a_t, .inr (7, [.ref a_t_keys, .ref a_t_weights, .ref a_t_towers, .ref a_t_coin, .int t_size, .int t_hidden]))] sz [.ref a_t, .int p1]) (wQv D y [(a_t, .inr (7, [.ref a_t_keys, .ref a_t_weights, .ref a_t_towers, .ref a_t_coin, .int t_size, .int t_hidden']))] [(a_t, .inr (7, [.ref a_t_keys, .ref a_t_weights, .ref a_t_towers, .ref a_t_coin, .int t_size, .int t_hidden]))] sz) 0 0 (va_A [(a_t, .inr (7, [.ref a_t_keys, .ref a_t_weights, .ref a_t_towers, .ref a_t_coin, .int t_size, .int t_hidden]))] sz) := by
  refine Met.ofW (cc := cX3_hide) (maxL := 2) (ret := none) (by decide) rfl ?_
  intro p e s m args below meth c s₁ B hml hv
  obtain ⟨hav, hsz, hP, hK, hD0⟩ := hv
  have hx := B.exec
  have hb := B.bytes
  have hr := B.returns
  have hts := atoms_spec (ws := wsX3_hide) B.pre
  have hown : s.vm.findClass RX3 = some m.cls := findClass_of_methodNamed B.named
  have hlocks := B.notSynchronized
  subst hsz
  have hD := hD0.self (sz := s.heap.size)
  obtain ⟨A, hAe⟩ : ∃ A : Nat → Prop, va_A [(a_t, .inr (7, [.ref a_t_keys, .ref a_t_weights, .ref a_t_towers, .ref a_t_coin, .int t_size, .int t_hidden]))] s.heap.size = A := ⟨_, rfl⟩
  rw [hAe] at hD
  have hA : ∀ q, s.heap.size ≤ q → A q := fun q h => by rw [← hAe]; exact Or.inr h
  have hS : va_S A s.heap s.heap [] := va_S.rf
  refine W_q (R1 := (rmq 0 0)) rfl (fun Q0 hQ0 => ?_)
  unfold F_X3_hide at hF
  refine W_entry hav (Nat.le_of_ble_eq_true rfl) (fun ls hl => ?_)
  have hl : lv_has ls 2 [(0, .ref a_t), (1, .int p1)] := hl
  refine lv_aload_n hx hb dX3_hide_0 rfl (lv_at hl 0 rfl) ?_
  refine lv_dup hx hb dX3_hide_1 rfl ?_
  refine va_get (D := D) (ci := 7) (v := .int t_hidden) (C := RX3) (T := TX3) (N := 6) hx hb hts iX3_hide_X3 hown hK hP 0 rfl rfl 5 (by decide) (hts (.fieldLink RX3 32 "SkipArchive$Ladder" "hidden" "I") (List.mem_of_getElem? (i := 1) rfl)) (fun _ h9 => h9) rfl dX3_hide_2 ?_
  refine lv_iconst (v := 1) hx hb dX3_hide_5 (by decide) ?_
  refine lv_iload_n hx hb dX3_hide_6 rfl (lv_at hl 1 rfl) ?_
  refine lv_ishl hx hb dX3_hide_7 ?_
  refine lv_ior hx hb dX3_hide_8 ?_
  refine va_put (D := D) (ci := 7) (v := .int (t_hidden ||| ((1 : Int32) <<< (p1 &&& 31)))) (ty := .int) (C := RX3) (T := TX3) (N := 6) hx hb hts iX3_hide_X3 tyX3 tyX3_ok nmX3 hown hK hP hD hS 0 rfl rfl 5 (by decide) (hts (.fieldLink RX3 32 "SkipArchive$Ladder" "hidden" "I") (List.mem_of_getElem? (i := 1) rfl)) (fun _ h9 => h9) rfl (by decide +kernel) rfl rfl (Nat.le_of_ble_eq_true rfl) dX3_hide_9 (fun H locs hP hD hS => ?_)
  have hP : va_P D vwCl [(a_t, .inr (7, [.ref a_t_keys, .ref a_t_weights, .ref a_t_towers, .ref a_t_coin, .int t_size, .int (t_hidden ||| ((1 : Int32) <<< (p1 &&& 31)))]))] H := hP
  have hD : va_D A [(a_t, .inr (7, [.ref a_t_keys, .ref a_t_weights, .ref a_t_towers, .ref a_t_coin, .int t_size, .int (t_hidden ||| ((1 : Int32) <<< (p1 &&& 31)))]))] := hD
  obtain e0_12 := inj1 hF
  rw [← e0_12] at hQ0
  rw [hQ0]
  exact ret_v hx hb hr hlocks hAe hK hP hD hS [0] rfl rfl dX3_hide_12
def F_X3_show (fl : Nat) (t_hidden : Int32) (p1 : Int32) : Option (Int32) := some (t_hidden &&& (((1 : Int32) <<< (p1 &&& 31)) ^^^ (-1 : Int32)))
theorem iX3_show_X3 : ∀ w ∈ u_ws RX3 TX3 6, w ∈ wsX3_show := fun w h => List.mem_cons_of_mem _ (List.mem_append_right _ h)
set_option maxHeartbeats 4000000 in
set_option maxRecDepth 100000 in
theorem c_X3_show (l : Launch) (D : va_G) (y : Nat → ClassId) (fl : Nat) (sz : Nat) (a_t : Nat) (a_t_keys : Nat) (a_t_weights : Nat) (a_t_towers : Nat) (a_t_coin : Nat) (t_size : Int32) (t_hidden : Int32) (p1 : Int32) (t_hidden' : Int32) (hF : F_X3_show fl t_hidden p1 = some t_hidden') : Met l yX3_show wsX3_show (rmq 0 0) (wrP D y [(a_t, .inr (7, [.ref a_t_keys, .ref a_t_weights, .ref a_t_towers, .ref a_t_coin, .int t_size, .int t_hidden]))] sz [.ref a_t, .int p1]) (wQv D y [(a_t, .inr (7, [.ref a_t_keys, .ref a_t_weights, .ref a_t_towers, .ref a_t_coin, .int t_size, .int t_hidden']))] [(a_t, .inr (7, [.ref a_t_keys, .ref a_t_weights, .ref a_t_towers, .ref a_t_coin, .int t_size, .int t_hidden]))] sz) 0 0 (va_A [(a_t, .inr (7, [.ref a_t_keys, .ref a_t_weights, .ref a_t_towers, .ref a_t_coin, .int t_size, .int t_hidden]))] sz) := by
  refine Met.ofW (cc := cX3_show) (maxL := 2) (ret := none) (by decide) rfl ?_
  intro p e s m args below meth c s₁ B hml hv
  obtain ⟨hav, hsz, hP, hK, hD0⟩ := hv
  have hx := B.exec
  have hb := B.bytes
  have hr := B.returns
  have hts := atoms_spec (ws := wsX3_show) B.pre
  have hown : s.vm.findClass RX3 = some m.cls := findClass_of_methodNamed B.named
  have hlocks := B.notSynchronized
  subst hsz
  have hD := hD0.self (sz := s.heap.size)
  obtain ⟨A, hAe⟩ : ∃ A : Nat → Prop, va_A [(a_t, .inr (7, [.ref a_t_keys, .ref a_t_weights, .ref a_t_towers, .ref a_t_coin, .int t_size, .int t_hidden]))] s.heap.size = A := ⟨_, rfl⟩
  rw [hAe] at hD
  have hA : ∀ q, s.heap.size ≤ q → A q := fun q h => by rw [← hAe]; exact Or.inr h
  have hS : va_S A s.heap s.heap [] := va_S.rf
  refine W_q (R1 := (rmq 0 0)) rfl (fun Q0 hQ0 => ?_)
  unfold F_X3_show at hF
  refine W_entry hav (Nat.le_of_ble_eq_true rfl) (fun ls hl => ?_)
  have hl : lv_has ls 2 [(0, .ref a_t), (1, .int p1)] := hl
  refine lv_aload_n hx hb dX3_show_0 rfl (lv_at hl 0 rfl) ?_
  refine lv_dup hx hb dX3_show_1 rfl ?_
  refine va_get (D := D) (ci := 7) (v := .int t_hidden) (C := RX3) (T := TX3) (N := 6) hx hb hts iX3_show_X3 hown hK hP 0 rfl rfl 5 (by decide) (hts (.fieldLink RX3 32 "SkipArchive$Ladder" "hidden" "I") (List.mem_of_getElem? (i := 1) rfl)) (fun _ h9 => h9) rfl dX3_show_2 ?_
  refine lv_iconst (v := 1) hx hb dX3_show_5 (by decide) ?_
  refine lv_iload_n hx hb dX3_show_6 rfl (lv_at hl 1 rfl) ?_
  refine lv_ishl hx hb dX3_show_7 ?_
  refine lv_iconst (v := -1) hx hb dX3_show_8 (by decide) ?_
  refine lv_ixor hx hb dX3_show_9 ?_
  refine lv_iand hx hb dX3_show_10 ?_
  refine va_put (D := D) (ci := 7) (v := .int (t_hidden &&& (((1 : Int32) <<< (p1 &&& 31)) ^^^ (-1 : Int32)))) (ty := .int) (C := RX3) (T := TX3) (N := 6) hx hb hts iX3_show_X3 tyX3 tyX3_ok nmX3 hown hK hP hD hS 0 rfl rfl 5 (by decide) (hts (.fieldLink RX3 32 "SkipArchive$Ladder" "hidden" "I") (List.mem_of_getElem? (i := 1) rfl)) (fun _ h9 => h9) rfl (by decide +kernel) rfl rfl (Nat.le_of_ble_eq_true rfl) dX3_show_11 (fun H locs hP hD hS => ?_)
  have hP : va_P D vwCl [(a_t, .inr (7, [.ref a_t_keys, .ref a_t_weights, .ref a_t_towers, .ref a_t_coin, .int t_size, .int (t_hidden &&& (((1 : Int32) <<< (p1 &&& 31)) ^^^ (-1 : Int32)))]))] H := hP
  have hD : va_D A [(a_t, .inr (7, [.ref a_t_keys, .ref a_t_weights, .ref a_t_towers, .ref a_t_coin, .int t_size, .int (t_hidden &&& (((1 : Int32) <<< (p1 &&& 31)) ^^^ (-1 : Int32)))]))] := hD
  obtain e0_14 := inj1 hF
  rw [← e0_14] at hQ0
  rw [hQ0]
  exact ret_v hx hb hr hlocks hAe hK hP hD hS [0] rfl rfl dX3_show_14
def F_X3_usedUpTo_2 (fl : Nat) (t_hidden : Int32) : Nat → Int32 → Int32 → Option (Int32)
  | 0, _, _ => none
  | n + 1, x1, x2 => if x2 ≤ 0 then (some (if x2 < (0 : Int32) then (0 : Int32) else x2)) else (bn (F_X3_isHidden fl t_hidden x2) fun r_8 => if r_8 = 0 then (some (if x2 < (0 : Int32) then (0 : Int32) else x2)) else (F_X3_usedUpTo_2 fl t_hidden n x1 (x2 + (-1 : Int32))))
def F_X3_usedUpTo (fl : Nat) (t_hidden : Int32) (p1 : Int32) : Option (Int32) := F_X3_usedUpTo_2 fl t_hidden fl p1 p1
set_option maxHeartbeats 4000000 in
set_option maxRecDepth 100000 in
theorem c_X3_usedUpTo (l : Launch) (D : va_G) (y : Nat → ClassId) (fl : Nat) (a_t : Nat) (a_t_keys : Nat) (a_t_weights : Nat) (a_t_towers : Nat) (a_t_coin : Nat) (t_size : Int32) (t_hidden : Int32) (p1 : Int32) (r : Int32) (hF : F_X3_usedUpTo fl t_hidden p1 = some r) : Met l yX3_usedUpTo wsX3_usedUpTo (rmq 1 24) (rdP D y [(a_t, .inr (7, [.ref a_t_keys, .ref a_t_weights, .ref a_t_towers, .ref a_t_coin, .int t_size, .int t_hidden]))] [.ref a_t, .int p1]) (QcRead r) 0 0 (fun _ => False) := by
  refine Met.ofW (cc := cX3_usedUpTo) (maxL := 3) (ret := (some .int)) (by decide) rfl ?_
  intro p e s m args below meth c s₁ B hml hv
  obtain ⟨hav, hP, hK⟩ := hv
  have hx := B.exec
  have hb := B.bytes
  have hr := B.returns
  have hts := atoms_spec (ws := wsX3_usedUpTo) B.pre
  have hown : s.vm.findClass RX3 = some m.cls := findClass_of_methodNamed B.named
  have hlocks := B.notSynchronized
  refine W_q (R1 := (rmq 1 24)) rfl (fun Q0 hQ0 => ?_)
  unfold F_X3_usedUpTo at hF
  have k_2 : ∀ (n : Nat) (x1 : Int32) (x2 : Int32), F_X3_usedUpTo_2 fl t_hidden n x1 x2 = some r → ∀ (ls : Array Slot), lv_has ls 3 [(0, .ref a_t), (1, .int x1), (2, .int x2)] → W p l e (rmq 1 24) s m args below meth c s.heap [] 0 0 Q0 (F0 m 2 ls []) := by
    intro n
    induction n with
    | zero => intro x1 x2 hF; rw [F_X3_usedUpTo_2] at hF; cases hF
    | succ n ih =>
      intro x1 x2 hF ls hl
      rw [F_X3_usedUpTo_2] at hF
      refine lv_iload_n hx hb dX3_usedUpTo_2 rfl (lv_at hl 2 rfl) ?_
      refine lv_if_le (tgt := 20) hx hb dX3_usedUpTo_3 (by decide) (fun c_3 => ?_) (fun c_3 => ?_)
      · have hF := ift hF c_3
        refine lv_iload_n hx hb dX3_usedUpTo_20 rfl (lv_at hl 2 rfl) ?_
        refine lv_iconst (v := 0) hx hb dX3_usedUpTo_21 (by decide) ?_
        refine va_mmax hx hb (hml.trans hl.1.symm) hown (hts (.methodLink RX3 78 Lib.Math.max.name) (by decide +kernel)) (hts (.static Lib.Math.max.name) (by decide +kernel)) (hts (.initialized "java/lang/Math") (by decide +kernel)) (hts (.code Lib.Math.max.name Lib.Math.max.code 2 (some .int)) (by decide +kernel)) (Nat.le_of_ble_eq_true rfl) (Nat.le_of_ble_eq_true rfl) (Nat.le_of_ble_eq_true rfl) (Nat.le_of_ble_eq_true rfl) dX3_usedUpTo_22 ?_
        obtain e0_25 := inj1 hF
        rw [← e0_25] at hQ0
        rw [hQ0]
        exact W.iret (v := if x2 < (0 : Int32) then (0 : Int32) else x2) hx hb hr (fun t ht hW => ⟨rfl, ht⟩) (fun _ h => nomatch h) dX3_usedUpTo_25
      · have hF := iff_ hF c_3
        refine lv_aload_n hx hb dX3_usedUpTo_6 rfl (lv_at hl 0 rfl) ?_
        refine lv_iload_n hx hb dX3_usedUpTo_7 rfl (lv_at hl 2 rfl) ?_
        obtain ⟨r_8, hq_8, hF⟩ := bn_i hF
        refine cr_V (As := [.int x2]) (rest := []) ⟨hx, hb, hml, hown, hts⟩ (c_X3_isHidden l D y fl a_t a_t_keys a_t_weights a_t_towers a_t_coin t_size t_hidden x2 r_8 hq_8) (cwV 1 hts gX3_usedUpTo_X3_isHidden rfl rfl rfl (by decide +kernel) ⟨Nat.le_of_ble_eq_true rfl, Nat.le_of_ble_eq_true rfl⟩) hK hP [0] rfl rfl rfl rfl hl.1 rfl (Nat.le_of_ble_eq_true rfl) dX3_usedUpTo_8 ⟨Nat.le_of_ble_eq_true rfl, Nat.le_of_ble_eq_true rfl⟩ ?_
        refine lv_if_eq (tgt := 20) hx hb dX3_usedUpTo_11 (by decide) (fun c_11 => ?_) (fun c_11 => ?_)
        · have hF := ift hF c_11
          refine lv_iload_n hx hb dX3_usedUpTo_20 rfl (lv_at hl 2 rfl) ?_
          refine lv_iconst (v := 0) hx hb dX3_usedUpTo_21 (by decide) ?_
          refine va_mmax hx hb (hml.trans hl.1.symm) hown (hts (.methodLink RX3 78 Lib.Math.max.name) (by decide +kernel)) (hts (.static Lib.Math.max.name) (by decide +kernel)) (hts (.initialized "java/lang/Math") (by decide +kernel)) (hts (.code Lib.Math.max.name Lib.Math.max.code 2 (some .int)) (by decide +kernel)) (Nat.le_of_ble_eq_true rfl) (Nat.le_of_ble_eq_true rfl) (Nat.le_of_ble_eq_true rfl) (Nat.le_of_ble_eq_true rfl) dX3_usedUpTo_22 ?_
          obtain e0_25 := inj1 hF
          rw [← e0_25] at hQ0
          rw [hQ0]
          exact W.iret (v := if x2 < (0 : Int32) then (0 : Int32) else x2) hx hb hr (fun t ht hW => ⟨rfl, ht⟩) (fun _ h => nomatch h) dX3_usedUpTo_25
        · have hF := iff_ hF c_11
          refine lv_iinc (v := x2 + (-1 : Int32)) (lv' := [(2, .int (x2 + (-1 : Int32))), (0, .ref a_t), (1, .int x1)]) hx hb dX3_usedUpTo_14 hl (k := 2) rfl rfl (by decide) rfl (fun ls hl => ?_)
          refine lv_goto (tgt := 2) hx hb dX3_usedUpTo_17 (by decide) ?_
          exact ih x1 (x2 + (-1 : Int32)) hF ls (lv_sub hl [1, 2, 0] rfl)
  refine W_entry hav (Nat.le_of_ble_eq_true rfl) (fun ls hl => ?_)
  have hl : lv_has ls 3 [(0, .ref a_t), (1, .int p1)] := hl
  refine lv_iload_n hx hb dX3_usedUpTo_0 rfl (lv_at hl 1 rfl) ?_
  refine lv_istore_n (lv' := [(2, .int p1), (0, .ref a_t), (1, .int p1)]) hx hb dX3_usedUpTo_1 rfl hl (by decide) rfl (fun ls hl => ?_)
  exact k_2 fl p1 p1 hF ls (lv_sub hl [1, 2, 0] rfl)
def F_X3_beginning (fl : Nat) (t_size : Int32) (t_hidden : Int32) (t_towers : Nat → Int32) : Option (Int32) := bn (F_X3_highestLevel fl t_size t_towers) fun r_2 => bn (F_X3_usedUpTo fl t_hidden r_2) fun r_5 => some r_5
set_option maxHeartbeats 4000000 in
set_option maxRecDepth 100000 in
theorem c_X3_beginning (l : Launch) (D : va_G) (y : Nat → ClassId) (fl : Nat) (a_t : Nat) (a_t_keys : Nat) (a_t_weights : Nat) (a_t_towers : Nat) (a_t_coin : Nat) (t_size : Int32) (t_hidden : Int32) (t_towers : Nat → Int32) (r : Int32) (hF : F_X3_beginning fl t_size t_hidden t_towers = some r) : Met l yX3_beginning wsX3_beginning (rmq 3 64) (rdP D y [(a_t, .inr (7, [.ref a_t_keys, .ref a_t_weights, .ref a_t_towers, .ref a_t_coin, .int t_size, .int t_hidden])), (a_t_towers, .inl (y 0, 24, .inl t_towers))] [.ref a_t]) (QcRead r) 0 0 (fun _ => False) := by
  refine Met.ofW (cc := cX3_beginning) (maxL := 1) (ret := (some .int)) (by decide) rfl ?_
  intro p e s m args below meth c s₁ B hml hv
  obtain ⟨hav, hP, hK⟩ := hv
  have hx := B.exec
  have hb := B.bytes
  have hr := B.returns
  have hts := atoms_spec (ws := wsX3_beginning) B.pre
  have hown : s.vm.findClass RX3 = some m.cls := findClass_of_methodNamed B.named
  have hlocks := B.notSynchronized
  refine W_q (R1 := (rmq 3 64)) rfl (fun Q0 hQ0 => ?_)
  unfold F_X3_beginning at hF
  refine W_entry hav (Nat.le_of_ble_eq_true rfl) (fun ls hl => ?_)
  have hl : lv_has ls 1 [(0, .ref a_t)] := hl
  refine lv_aload_n hx hb dX3_beginning_0 rfl (lv_at hl 0 rfl) ?_
  refine lv_aload_n hx hb dX3_beginning_1 rfl (lv_at hl 0 rfl) ?_
  obtain ⟨r_2, hq_2, hF⟩ := bn_i hF
  refine cr_V (As := []) (rest := [.ref a_t]) ⟨hx, hb, hml, hown, hts⟩ (c_X3_highestLevel l D y fl a_t a_t_keys a_t_weights a_t_towers a_t_coin t_size t_hidden t_towers r_2 hq_2) (cwV 0 hts gX3_beginning_X3_highestLevel rfl rfl rfl (by decide +kernel) ⟨Nat.le_of_ble_eq_true rfl, Nat.le_of_ble_eq_true rfl⟩) hK hP [0, 1] rfl rfl rfl rfl hl.1 rfl (Nat.le_of_ble_eq_true rfl) dX3_beginning_2 ⟨Nat.le_of_ble_eq_true rfl, Nat.le_of_ble_eq_true rfl⟩ ?_
  obtain ⟨r_5, hq_5, hF⟩ := bn_i hF
  refine cr_V (As := [.int r_2]) (rest := []) ⟨hx, hb, hml, hown, hts⟩ (c_X3_usedUpTo l D y fl a_t a_t_keys a_t_weights a_t_towers a_t_coin t_size t_hidden r_2 r_5 hq_5) (cwV 1 hts gX3_beginning_X3_usedUpTo rfl rfl rfl (by decide +kernel) ⟨Nat.le_of_ble_eq_true rfl, Nat.le_of_ble_eq_true rfl⟩) hK hP [0] rfl rfl rfl rfl hl.1 rfl (Nat.le_of_ble_eq_true rfl) dX3_beginning_5 ⟨Nat.le_of_ble_eq_true rfl, Nat.le_of_ble_eq_true rfl⟩ ?_
  obtain e0_8 := inj1 hF
  rw [← e0_8] at hQ0
  rw [hQ0]
  exact W.iret (v := r_5) hx hb hr (fun t ht hW => ⟨rfl, ht⟩) (fun _ h => nomatch h) dX3_beginning_8
def F_X3_usedAbove_4 (fl : Nat) (t_hidden : Int32) : Nat → Int32 → Int32 → Option (Int32)
  | 0, _, _ => none
  | n + 1, x1, x2 => if (5 : Int32) ≤ x2 then (some x2) else (bn (F_X3_isHidden fl t_hidden x2) fun r_11 => if r_11 = 0 then (some x2) else (F_X3_usedAbove_4 fl t_hidden n x1 (x2 + (1 : Int32))))
def F_X3_usedAbove (fl : Nat) (t_hidden : Int32) (p1 : Int32) : Option (Int32) := F_X3_usedAbove_4 fl t_hidden fl p1 (p1 + (1 : Int32))
set_option maxHeartbeats 4000000 in
set_option maxRecDepth 100000 in
theorem c_X3_usedAbove (l : Launch) (D : va_G) (y : Nat → ClassId) (fl : Nat) (a_t : Nat) (a_t_keys : Nat) (a_t_weights : Nat) (a_t_towers : Nat) (a_t_coin : Nat) (t_size : Int32) (t_hidden : Int32) (p1 : Int32) (r : Int32) (hF : F_X3_usedAbove fl t_hidden p1 = some r) : Met l yX3_usedAbove wsX3_usedAbove (rmq 1 21) (rdP D y [(a_t, .inr (7, [.ref a_t_keys, .ref a_t_weights, .ref a_t_towers, .ref a_t_coin, .int t_size, .int t_hidden]))] [.ref a_t, .int p1]) (QcRead r) 0 0 (fun _ => False) := by
  refine Met.ofW (cc := cX3_usedAbove) (maxL := 3) (ret := (some .int)) (by decide) rfl ?_
  intro p e s m args below meth c s₁ B hml hv
  obtain ⟨hav, hP, hK⟩ := hv
  have hx := B.exec
  have hb := B.bytes
  have hr := B.returns
  have hts := atoms_spec (ws := wsX3_usedAbove) B.pre
  have hown : s.vm.findClass RX3 = some m.cls := findClass_of_methodNamed B.named
  have hlocks := B.notSynchronized
  refine W_q (R1 := (rmq 1 21)) rfl (fun Q0 hQ0 => ?_)
  unfold F_X3_usedAbove at hF
  have k_4 : ∀ (n : Nat) (x1 : Int32) (x2 : Int32), F_X3_usedAbove_4 fl t_hidden n x1 x2 = some r → ∀ (ls : Array Slot), lv_has ls 3 [(0, .ref a_t), (1, .int x1), (2, .int x2)] → W p l e (rmq 1 21) s m args below meth c s.heap [] 0 0 Q0 (F0 m 4 ls []) := by
    intro n
    induction n with
    | zero => intro x1 x2 hF; rw [F_X3_usedAbove_4] at hF; cases hF
    | succ n ih =>
      intro x1 x2 hF ls hl
      rw [F_X3_usedAbove_4] at hF
      refine lv_iload_n hx hb dX3_usedAbove_4 rfl (lv_at hl 2 rfl) ?_
      refine lv_iconst (v := 5) hx hb dX3_usedAbove_5 (by decide) ?_
      refine lv_icmp_ge (tgt := 23) hx hb dX3_usedAbove_6 (by decide) (fun c_6 => ?_) (fun c_6 => ?_)
      · have hF := ift hF c_6
        refine lv_iload_n hx hb dX3_usedAbove_23 rfl (lv_at hl 2 rfl) ?_
        obtain e0_24 := inj1 hF
        rw [← e0_24] at hQ0
        rw [hQ0]
        exact W.iret (v := x2) hx hb hr (fun t ht hW => ⟨rfl, ht⟩) (fun _ h => nomatch h) dX3_usedAbove_24
      · have hF := iff_ hF c_6
        refine lv_aload_n hx hb dX3_usedAbove_9 rfl (lv_at hl 0 rfl) ?_
        refine lv_iload_n hx hb dX3_usedAbove_10 rfl (lv_at hl 2 rfl) ?_
        obtain ⟨r_11, hq_11, hF⟩ := bn_i hF
        refine cr_V (As := [.int x2]) (rest := []) ⟨hx, hb, hml, hown, hts⟩ (c_X3_isHidden l D y fl a_t a_t_keys a_t_weights a_t_towers a_t_coin t_size t_hidden x2 r_11 hq_11) (cwV 1 hts gX3_usedAbove_X3_isHidden rfl rfl rfl (by decide +kernel) ⟨Nat.le_of_ble_eq_true rfl, Nat.le_of_ble_eq_true rfl⟩) hK hP [0] rfl rfl rfl rfl hl.1 rfl (Nat.le_of_ble_eq_true rfl) dX3_usedAbove_11 ⟨Nat.le_of_ble_eq_true rfl, Nat.le_of_ble_eq_true rfl⟩ ?_
        refine lv_if_eq (tgt := 23) hx hb dX3_usedAbove_14 (by decide) (fun c_14 => ?_) (fun c_14 => ?_)
        · have hF := ift hF c_14
          refine lv_iload_n hx hb dX3_usedAbove_23 rfl (lv_at hl 2 rfl) ?_
          obtain e0_24 := inj1 hF
          rw [← e0_24] at hQ0
          rw [hQ0]
          exact W.iret (v := x2) hx hb hr (fun t ht hW => ⟨rfl, ht⟩) (fun _ h => nomatch h) dX3_usedAbove_24
        · have hF := iff_ hF c_14
          refine lv_iinc (v := x2 + (1 : Int32)) (lv' := [(2, .int (x2 + (1 : Int32))), (0, .ref a_t), (1, .int x1)]) hx hb dX3_usedAbove_17 hl (k := 2) rfl rfl (by decide) rfl (fun ls hl => ?_)
          refine lv_goto (tgt := 4) hx hb dX3_usedAbove_20 (by decide) ?_
          exact ih x1 (x2 + (1 : Int32)) hF ls (lv_sub hl [1, 2, 0] rfl)
  refine W_entry hav (Nat.le_of_ble_eq_true rfl) (fun ls hl => ?_)
  have hl : lv_has ls 3 [(0, .ref a_t), (1, .int p1)] := hl
  refine lv_iload_n hx hb dX3_usedAbove_0 rfl (lv_at hl 1 rfl) ?_
  refine lv_iconst (v := 1) hx hb dX3_usedAbove_1 (by decide) ?_
  refine lv_iadd hx hb dX3_usedAbove_2 ?_
  refine lv_istore_n (lv' := [(2, .int (p1 + (1 : Int32))), (0, .ref a_t), (1, .int p1)]) hx hb dX3_usedAbove_3 rfl hl (by decide) rfl (fun ls hl => ?_)
  exact k_4 fl p1 (p1 + (1 : Int32)) hF ls (lv_sub hl [1, 2, 0] rfl)
def F_X3_copyFrom (fl : Nat) (t_size : Int32) (t_hidden : Int32) (t_keys : Nat → Int32) (t_weights : Nat → Int32) (t_towers : Nat → Int32) (t_coin_number : Int32) (t_coin_tossed : Int32) (t_coin_heads : Int32) (o1_size : Int32) (o1_hidden : Int32) (o1_keys : Nat → Int32) (o1_weights : Nat → Int32) (o1_towers : Nat → Int32) (o1_coin_number : Int32) (o1_coin_tossed : Int32) (o1_coin_heads : Int32) : Option (Int32 × Int32 × (Nat → Int32) × (Nat → Int32) × (Nat → Int32) × Int32 × Int32 × Int32) := bn3 (F_X1_copyFrom fl t_coin_number t_coin_tossed t_coin_heads o1_coin_number o1_coin_tossed o1_coin_heads) fun t_coin_number_53 t_coin_tossed_53 t_coin_heads_53 => some (o1_size, o1_hidden, va_cpy o1_keys t_keys (0 : Int32).toNatClampNeg (0 : Int32).toNatClampNeg (24 : Int32).toNatClampNeg, va_cpy o1_weights t_weights (0 : Int32).toNatClampNeg (0 : Int32).toNatClampNeg (24 : Int32).toNatClampNeg, va_cpy o1_towers t_towers (0 : Int32).toNatClampNeg (0 : Int32).toNatClampNeg (24 : Int32).toNatClampNeg, t_coin_number_53, t_coin_tossed_53, t_coin_heads_53)
theorem iX3_copyFrom_X3 : ∀ w ∈ u_ws RX3 TX3 6, w ∈ wsX3_copyFrom := fun w h => List.mem_cons_of_mem _ (List.mem_append_left _ (List.mem_append_right _ h))
set_option maxHeartbeats 4000000 in
set_option maxRecDepth 100000 in
theorem c_X3_copyFrom (l : Launch) (D : va_G) (y : Nat → ClassId) (fl : Nat) (sz : Nat) (a_t : Nat) (a_t_keys : Nat) (a_t_weights : Nat) (a_t_towers : Nat) (a_t_coin : Nat) (a_o1 : Nat) (a_o1_keys : Nat) (a_o1_weights : Nat) (a_o1_towers : Nat) (a_o1_coin : Nat) (t_size : Int32) (t_hidden : Int32) (t_keys : Nat → Int32) (t_weights : Nat → Int32) (t_towers : Nat → Int32) (t_coin_number : Int32) (t_coin_tossed : Int32) (t_coin_heads : Int32) (o1_size : Int32) (o1_hidden : Int32) (o1_keys : Nat → Int32) (o1_weights : Nat → Int32) (o1_towers : Nat → Int32) (o1_coin_number : Int32) (o1_coin_tossed : Int32) (o1_coin_heads : Int32) (t_size' : Int32) (t_hidden' : Int32) (t_keys' : Nat → Int32) (t_weights' : Nat → Int32) (t_towers' : Nat → Int32) (t_coin_number' : Int32) (t_coin_tossed' : Int32) (t_coin_heads' : Int32) (hF : F_X3_copyFrom fl t_size t_hidden t_keys t_weights t_towers t_coin_number t_coin_tossed t_coin_heads o1_size o1_hidden o1_keys o1_weights o1_towers o1_coin_number o1_coin_tossed o1_coin_heads = some (t_size', t_hidden', t_keys', t_weights', t_towers', t_coin_number', t_coin_tossed', t_coin_heads')) : Met l yX3_copyFrom wsX3_copyFrom (rmq 1 64) (wrP D y [(a_t, .inr (7, [.ref a_t_keys, .ref a_t_weights, .ref a_t_towers, .ref a_t_coin, .int t_size, .int t_hidden])), (a_t_keys, .inl (y 0, 24, .inl t_keys)), (a_t_weights, .inl (y 0, 24, .inl t_weights)), (a_t_towers, .inl (y 0, 24, .inl t_towers)), (a_t_coin, .inr (5, [.int t_coin_number, .int t_coin_tossed, .int t_coin_heads])), (a_o1, .inr (7, [.ref a_o1_keys, .ref a_o1_weights, .ref a_o1_towers, .ref a_o1_coin, .int o1_size, .int o1_hidden])), (a_o1_keys, .inl (y 0, 24, .inl o1_keys)), (a_o1_weights, .inl (y 0, 24, .inl o1_weights)), (a_o1_towers, .inl (y 0, 24, .inl o1_towers)), (a_o1_coin, .inr (5, [.int o1_coin_number, .int o1_coin_tossed, .int o1_coin_heads]))] sz [.ref a_t, .ref a_o1]) (wQv D y [(a_t, .inr (7, [.ref a_t_keys, .ref a_t_weights, .ref a_t_towers, .ref a_t_coin, .int t_size', .int t_hidden'])), (a_t_keys, .inl (y 0, 24, .inl t_keys')), (a_t_weights, .inl (y 0, 24, .inl t_weights')), (a_t_towers, .inl (y 0, 24, .inl t_towers')), (a_t_coin, .inr (5, [.int t_coin_number', .int t_coin_tossed', .int t_coin_heads'])), (a_o1, .inr (7, [.ref a_o1_keys, .ref a_o1_weights, .ref a_o1_towers, .ref a_o1_coin, .int o1_size, .int o1_hidden])), (a_o1_keys, .inl (y 0, 24, .inl o1_keys)), (a_o1_weights, .inl (y 0, 24, .inl o1_weights)), (a_o1_towers, .inl (y 0, 24, .inl o1_towers)), (a_o1_coin, .inr (5, [.int o1_coin_number, .int o1_coin_tossed, .int o1_coin_heads]))] [(a_t, .inr (7, [.ref a_t_keys, .ref a_t_weights, .ref a_t_towers, .ref a_t_coin, .int t_size, .int t_hidden])), (a_t_keys, .inl (y 0, 24, .inl t_keys)), (a_t_weights, .inl (y 0, 24, .inl t_weights)), (a_t_towers, .inl (y 0, 24, .inl t_towers)), (a_t_coin, .inr (5, [.int t_coin_number, .int t_coin_tossed, .int t_coin_heads])), (a_o1, .inr (7, [.ref a_o1_keys, .ref a_o1_weights, .ref a_o1_towers, .ref a_o1_coin, .int o1_size, .int o1_hidden])), (a_o1_keys, .inl (y 0, 24, .inl o1_keys)), (a_o1_weights, .inl (y 0, 24, .inl o1_weights)), (a_o1_towers, .inl (y 0, 24, .inl o1_towers)), (a_o1_coin, .inr (5, [.int o1_coin_number, .int o1_coin_tossed, .int o1_coin_heads]))] sz) 0 0 (va_A [(a_t, .inr (7, [.ref a_t_keys, .ref a_t_weights, .ref a_t_towers, .ref a_t_coin, .int t_size, .int t_hidden])), (a_t_keys, .inl (y 0, 24, .inl t_keys)), (a_t_weights, .inl (y 0, 24, .inl t_weights)), (a_t_towers, .inl (y 0, 24, .inl t_towers)), (a_t_coin, .inr (5, [.int t_coin_number, .int t_coin_tossed, .int t_coin_heads])), (a_o1, .inr (7, [.ref a_o1_keys, .ref a_o1_weights, .ref a_o1_towers, .ref a_o1_coin, .int o1_size, .int o1_hidden])), (a_o1_keys, .inl (y 0, 24, .inl o1_keys)), (a_o1_weights, .inl (y 0, 24, .inl o1_weights)), (a_o1_towers, .inl (y 0, 24, .inl o1_towers)), (a_o1_coin, .inr (5, [.int o1_coin_number, .int o1_coin_tossed, .int o1_coin_heads]))] sz) := by
  refine Met.ofW (cc := cX3_copyFrom) (maxL := 2) (ret := none) (by decide) rfl ?_
  intro p e s m args below meth c s₁ B hml hv
  obtain ⟨hav, hsz, hP, hK, hD0⟩ := hv
  have hx := B.exec
  have hb := B.bytes
  have hr := B.returns
  have hts := atoms_spec (ws := wsX3_copyFrom) B.pre
  have hown : s.vm.findClass RX3 = some m.cls := findClass_of_methodNamed B.named
  have hlocks := B.notSynchronized
  subst hsz
  have hD := hD0.self (sz := s.heap.size)
  obtain ⟨A, hAe⟩ : ∃ A : Nat → Prop, va_A [(a_t, .inr (7, [.ref a_t_keys, .ref a_t_weights, .ref a_t_towers, .ref a_t_coin, .int t_size, .int t_hidden])), (a_t_keys, .inl (y 0, 24, .inl t_keys)), (a_t_weights, .inl (y 0, 24, .inl t_weights)), (a_t_towers, .inl (y 0, 24, .inl t_towers)), (a_t_coin, .inr (5, [.int t_coin_number, .int t_coin_tossed, .int t_coin_heads])), (a_o1, .inr (7, [.ref a_o1_keys, .ref a_o1_weights, .ref a_o1_towers, .ref a_o1_coin, .int o1_size, .int o1_hidden])), (a_o1_keys, .inl (y 0, 24, .inl o1_keys)), (a_o1_weights, .inl (y 0, 24, .inl o1_weights)), (a_o1_towers, .inl (y 0, 24, .inl o1_towers)), (a_o1_coin, .inr (5, [.int o1_coin_number, .int o1_coin_tossed, .int o1_coin_heads]))] s.heap.size = A := ⟨_, rfl⟩
  rw [hAe] at hD
  have hA : ∀ q, s.heap.size ≤ q → A q := fun q h => by rw [← hAe]; exact Or.inr h
  have hS : va_S A s.heap s.heap [] := va_S.rf
  refine W_q (R1 := (rmq 1 64)) rfl (fun Q0 hQ0 => ?_)
  unfold F_X3_copyFrom at hF
  refine W_entry hav (Nat.le_of_ble_eq_true rfl) (fun ls hl => ?_)
  have hl : lv_has ls 2 [(0, .ref a_t), (1, .ref a_o1)] := hl
  refine lv_aload_n hx hb dX3_copyFrom_0 rfl (lv_at hl 1 rfl) ?_
  refine va_get (D := D) (ci := 7) (v := .ref a_o1_keys) (C := RX3) (T := TX3) (N := 6) hx hb hts iX3_copyFrom_X3 hown hK hP 5 rfl rfl 0 (by decide) (hts (.fieldLink RX3 9 "SkipArchive$Ladder" "keys" "[I") (List.mem_of_getElem? (i := 1) rfl)) (fun _ h9 => h9) rfl dX3_copyFrom_1 ?_
  refine lv_iconst (v := 0) hx hb dX3_copyFrom_4 (by decide) ?_
  refine lv_aload_n hx hb dX3_copyFrom_5 rfl (lv_at hl 0 rfl) ?_
  refine va_get (D := D) (ci := 7) (v := .ref a_t_keys) (C := RX3) (T := TX3) (N := 6) hx hb hts iX3_copyFrom_X3 hown hK hP 0 rfl rfl 0 (by decide) (hts (.fieldLink RX3 9 "SkipArchive$Ladder" "keys" "[I") (List.mem_of_getElem? (i := 1) rfl)) (fun _ h9 => h9) rfl dX3_copyFrom_6 ?_
  refine lv_iconst (v := 0) hx hb dX3_copyFrom_9 (by decide) ?_
  refine lv_bipush (v := 24) hx hb dX3_copyFrom_10 (by decide) ?_
  refine va_copyi hx hb (hml.trans hl.1.symm) hown (hts (.methodLink RX3 35 arraycopyName) (List.mem_of_getElem? (i := 2) rfl)) (hts (.native arraycopyName) (List.mem_of_getElem? (i := 3) rfl)) (hts (.static arraycopyName) (List.mem_of_getElem? (i := 4) rfl)) (hts (.initialized "java/lang/System") (List.mem_of_getElem? (i := 5) rfl)) hK hP hD hS 6 1 0 0 rfl rfl rfl rfl rfl (by decide) (by decide) (by decide) (Nat.le_of_ble_eq_true rfl) (Nat.le_of_ble_eq_true rfl) (fun _ _ => rfl) (Nat.le_of_ble_eq_true rfl) (by decide +kernel) dX3_copyFrom_12 (fun H locs hP hD hS => ?_)
  have hP : va_P D vwCl [(a_t, .inr (7, [.ref a_t_keys, .ref a_t_weights, .ref a_t_towers, .ref a_t_coin, .int t_size, .int t_hidden])), (a_t_keys, .inl (y 0, 24, .inl (va_cpy o1_keys t_keys (0 : Int32).toNatClampNeg (0 : Int32).toNatClampNeg (24 : Int32).toNatClampNeg))), (a_t_weights, .inl (y 0, 24, .inl t_weights)), (a_t_towers, .inl (y 0, 24, .inl t_towers)), (a_t_coin, .inr (5, [.int t_coin_number, .int t_coin_tossed, .int t_coin_heads])), (a_o1, .inr (7, [.ref a_o1_keys, .ref a_o1_weights, .ref a_o1_towers, .ref a_o1_coin, .int o1_size, .int o1_hidden])), (a_o1_keys, .inl (y 0, 24, .inl o1_keys)), (a_o1_weights, .inl (y 0, 24, .inl o1_weights)), (a_o1_towers, .inl (y 0, 24, .inl o1_towers)), (a_o1_coin, .inr (5, [.int o1_coin_number, .int o1_coin_tossed, .int o1_coin_heads]))] H := hP
  have hD : va_D A [(a_t, .inr (7, [.ref a_t_keys, .ref a_t_weights, .ref a_t_towers, .ref a_t_coin, .int t_size, .int t_hidden])), (a_t_keys, .inl (y 0, 24, .inl (va_cpy o1_keys t_keys (0 : Int32).toNatClampNeg (0 : Int32).toNatClampNeg (24 : Int32).toNatClampNeg))), (a_t_weights, .inl (y 0, 24, .inl t_weights)), (a_t_towers, .inl (y 0, 24, .inl t_towers)), (a_t_coin, .inr (5, [.int t_coin_number, .int t_coin_tossed, .int t_coin_heads])), (a_o1, .inr (7, [.ref a_o1_keys, .ref a_o1_weights, .ref a_o1_towers, .ref a_o1_coin, .int o1_size, .int o1_hidden])), (a_o1_keys, .inl (y 0, 24, .inl o1_keys)), (a_o1_weights, .inl (y 0, 24, .inl o1_weights)), (a_o1_towers, .inl (y 0, 24, .inl o1_towers)), (a_o1_coin, .inr (5, [.int o1_coin_number, .int o1_coin_tossed, .int o1_coin_heads]))] := hD
  refine lv_aload_n hx hb dX3_copyFrom_15 rfl (lv_at hl 1 rfl) ?_
  refine va_get (D := D) (ci := 7) (v := .ref a_o1_weights) (C := RX3) (T := TX3) (N := 6) hx hb hts iX3_copyFrom_X3 hown hK hP 5 rfl rfl 1 (by decide) (hts (.fieldLink RX3 15 "SkipArchive$Ladder" "weights" "[I") (List.mem_of_getElem? (i := 6) rfl)) (fun _ h9 => h9) rfl dX3_copyFrom_16 ?_
  refine lv_iconst (v := 0) hx hb dX3_copyFrom_19 (by decide) ?_
  refine lv_aload_n hx hb dX3_copyFrom_20 rfl (lv_at hl 0 rfl) ?_
  refine va_get (D := D) (ci := 7) (v := .ref a_t_weights) (C := RX3) (T := TX3) (N := 6) hx hb hts iX3_copyFrom_X3 hown hK hP 0 rfl rfl 1 (by decide) (hts (.fieldLink RX3 15 "SkipArchive$Ladder" "weights" "[I") (List.mem_of_getElem? (i := 6) rfl)) (fun _ h9 => h9) rfl dX3_copyFrom_21 ?_
  refine lv_iconst (v := 0) hx hb dX3_copyFrom_24 (by decide) ?_
  refine lv_bipush (v := 24) hx hb dX3_copyFrom_25 (by decide) ?_
  refine va_copyi hx hb (hml.trans hl.1.symm) hown (hts (.methodLink RX3 35 arraycopyName) (List.mem_of_getElem? (i := 2) rfl)) (hts (.native arraycopyName) (List.mem_of_getElem? (i := 3) rfl)) (hts (.static arraycopyName) (List.mem_of_getElem? (i := 4) rfl)) (hts (.initialized "java/lang/System") (List.mem_of_getElem? (i := 5) rfl)) hK hP hD hS 7 2 0 0 rfl rfl rfl rfl rfl (by decide) (by decide) (by decide) (Nat.le_of_ble_eq_true rfl) (Nat.le_of_ble_eq_true rfl) (fun _ _ => rfl) (Nat.le_of_ble_eq_true rfl) (by decide +kernel) dX3_copyFrom_27 (fun H locs hP hD hS => ?_)
  have hP : va_P D vwCl [(a_t, .inr (7, [.ref a_t_keys, .ref a_t_weights, .ref a_t_towers, .ref a_t_coin, .int t_size, .int t_hidden])), (a_t_keys, .inl (y 0, 24, .inl (va_cpy o1_keys t_keys (0 : Int32).toNatClampNeg (0 : Int32).toNatClampNeg (24 : Int32).toNatClampNeg))), (a_t_weights, .inl (y 0, 24, .inl (va_cpy o1_weights t_weights (0 : Int32).toNatClampNeg (0 : Int32).toNatClampNeg (24 : Int32).toNatClampNeg))), (a_t_towers, .inl (y 0, 24, .inl t_towers)), (a_t_coin, .inr (5, [.int t_coin_number, .int t_coin_tossed, .int t_coin_heads])), (a_o1, .inr (7, [.ref a_o1_keys, .ref a_o1_weights, .ref a_o1_towers, .ref a_o1_coin, .int o1_size, .int o1_hidden])), (a_o1_keys, .inl (y 0, 24, .inl o1_keys)), (a_o1_weights, .inl (y 0, 24, .inl o1_weights)), (a_o1_towers, .inl (y 0, 24, .inl o1_towers)), (a_o1_coin, .inr (5, [.int o1_coin_number, .int o1_coin_tossed, .int o1_coin_heads]))] H := hP
  have hD : va_D A [(a_t, .inr (7, [.ref a_t_keys, .ref a_t_weights, .ref a_t_towers, .ref a_t_coin, .int t_size, .int t_hidden])), (a_t_keys, .inl (y 0, 24, .inl (va_cpy o1_keys t_keys (0 : Int32).toNatClampNeg (0 : Int32).toNatClampNeg (24 : Int32).toNatClampNeg))), (a_t_weights, .inl (y 0, 24, .inl (va_cpy o1_weights t_weights (0 : Int32).toNatClampNeg (0 : Int32).toNatClampNeg (24 : Int32).toNatClampNeg))), (a_t_towers, .inl (y 0, 24, .inl t_towers)), (a_t_coin, .inr (5, [.int t_coin_number, .int t_coin_tossed, .int t_coin_heads])), (a_o1, .inr (7, [.ref a_o1_keys, .ref a_o1_weights, .ref a_o1_towers, .ref a_o1_coin, .int o1_size, .int o1_hidden])), (a_o1_keys, .inl (y 0, 24, .inl o1_keys)), (a_o1_weights, .inl (y 0, 24, .inl o1_weights)), (a_o1_towers, .inl (y 0, 24, .inl o1_towers)), (a_o1_coin, .inr (5, [.int o1_coin_number, .int o1_coin_tossed, .int o1_coin_heads]))] := hD
  refine lv_aload_n hx hb dX3_copyFrom_30 rfl (lv_at hl 1 rfl) ?_
  refine va_get (D := D) (ci := 7) (v := .ref a_o1_towers) (C := RX3) (T := TX3) (N := 6) hx hb hts iX3_copyFrom_X3 hown hK hP 5 rfl rfl 2 (by decide) (hts (.fieldLink RX3 18 "SkipArchive$Ladder" "towers" "[I") (List.mem_of_getElem? (i := 7) rfl)) (fun _ h9 => h9) rfl dX3_copyFrom_31 ?_
  refine lv_iconst (v := 0) hx hb dX3_copyFrom_34 (by decide) ?_
  refine lv_aload_n hx hb dX3_copyFrom_35 rfl (lv_at hl 0 rfl) ?_
  refine va_get (D := D) (ci := 7) (v := .ref a_t_towers) (C := RX3) (T := TX3) (N := 6) hx hb hts iX3_copyFrom_X3 hown hK hP 0 rfl rfl 2 (by decide) (hts (.fieldLink RX3 18 "SkipArchive$Ladder" "towers" "[I") (List.mem_of_getElem? (i := 7) rfl)) (fun _ h9 => h9) rfl dX3_copyFrom_36 ?_
  refine lv_iconst (v := 0) hx hb dX3_copyFrom_39 (by decide) ?_
  refine lv_bipush (v := 24) hx hb dX3_copyFrom_40 (by decide) ?_
  refine va_copyi hx hb (hml.trans hl.1.symm) hown (hts (.methodLink RX3 35 arraycopyName) (List.mem_of_getElem? (i := 2) rfl)) (hts (.native arraycopyName) (List.mem_of_getElem? (i := 3) rfl)) (hts (.static arraycopyName) (List.mem_of_getElem? (i := 4) rfl)) (hts (.initialized "java/lang/System") (List.mem_of_getElem? (i := 5) rfl)) hK hP hD hS 8 3 0 0 rfl rfl rfl rfl rfl (by decide) (by decide) (by decide) (Nat.le_of_ble_eq_true rfl) (Nat.le_of_ble_eq_true rfl) (fun _ _ => rfl) (Nat.le_of_ble_eq_true rfl) (by decide +kernel) dX3_copyFrom_42 (fun H locs hP hD hS => ?_)
  have hP : va_P D vwCl [(a_t, .inr (7, [.ref a_t_keys, .ref a_t_weights, .ref a_t_towers, .ref a_t_coin, .int t_size, .int t_hidden])), (a_t_keys, .inl (y 0, 24, .inl (va_cpy o1_keys t_keys (0 : Int32).toNatClampNeg (0 : Int32).toNatClampNeg (24 : Int32).toNatClampNeg))), (a_t_weights, .inl (y 0, 24, .inl (va_cpy o1_weights t_weights (0 : Int32).toNatClampNeg (0 : Int32).toNatClampNeg (24 : Int32).toNatClampNeg))), (a_t_towers, .inl (y 0, 24, .inl (va_cpy o1_towers t_towers (0 : Int32).toNatClampNeg (0 : Int32).toNatClampNeg (24 : Int32).toNatClampNeg))), (a_t_coin, .inr (5, [.int t_coin_number, .int t_coin_tossed, .int t_coin_heads])), (a_o1, .inr (7, [.ref a_o1_keys, .ref a_o1_weights, .ref a_o1_towers, .ref a_o1_coin, .int o1_size, .int o1_hidden])), (a_o1_keys, .inl (y 0, 24, .inl o1_keys)), (a_o1_weights, .inl (y 0, 24, .inl o1_weights)), (a_o1_towers, .inl (y 0, 24, .inl o1_towers)), (a_o1_coin, .inr (5, [.int o1_coin_number, .int o1_coin_tossed, .int o1_coin_heads]))] H := hP
  have hD : va_D A [(a_t, .inr (7, [.ref a_t_keys, .ref a_t_weights, .ref a_t_towers, .ref a_t_coin, .int t_size, .int t_hidden])), (a_t_keys, .inl (y 0, 24, .inl (va_cpy o1_keys t_keys (0 : Int32).toNatClampNeg (0 : Int32).toNatClampNeg (24 : Int32).toNatClampNeg))), (a_t_weights, .inl (y 0, 24, .inl (va_cpy o1_weights t_weights (0 : Int32).toNatClampNeg (0 : Int32).toNatClampNeg (24 : Int32).toNatClampNeg))), (a_t_towers, .inl (y 0, 24, .inl (va_cpy o1_towers t_towers (0 : Int32).toNatClampNeg (0 : Int32).toNatClampNeg (24 : Int32).toNatClampNeg))), (a_t_coin, .inr (5, [.int t_coin_number, .int t_coin_tossed, .int t_coin_heads])), (a_o1, .inr (7, [.ref a_o1_keys, .ref a_o1_weights, .ref a_o1_towers, .ref a_o1_coin, .int o1_size, .int o1_hidden])), (a_o1_keys, .inl (y 0, 24, .inl o1_keys)), (a_o1_weights, .inl (y 0, 24, .inl o1_weights)), (a_o1_towers, .inl (y 0, 24, .inl o1_towers)), (a_o1_coin, .inr (5, [.int o1_coin_number, .int o1_coin_tossed, .int o1_coin_heads]))] := hD
  refine lv_aload_n hx hb dX3_copyFrom_45 rfl (lv_at hl 0 rfl) ?_
  refine va_get (D := D) (ci := 7) (v := .ref a_t_coin) (C := RX3) (T := TX3) (N := 6) hx hb hts iX3_copyFrom_X3 hown hK hP 0 rfl rfl 3 (by decide) (hts (.fieldLink RX3 24 "SkipArchive$Ladder" "coin" "LSkipArchive$Coin;") (List.mem_of_getElem? (i := 8) rfl)) (fun _ h9 => h9) rfl dX3_copyFrom_46 ?_
  refine lv_aload_n hx hb dX3_copyFrom_49 rfl (lv_at hl 1 rfl) ?_
  refine va_get (D := D) (ci := 7) (v := .ref a_o1_coin) (C := RX3) (T := TX3) (N := 6) hx hb hts iX3_copyFrom_X3 hown hK hP 5 rfl rfl 3 (by decide) (hts (.fieldLink RX3 24 "SkipArchive$Ladder" "coin" "LSkipArchive$Coin;") (List.mem_of_getElem? (i := 8) rfl)) (fun _ h9 => h9) rfl dX3_copyFrom_50 ?_
  obtain ⟨t_coin_number_53, t_coin_tossed_53, t_coin_heads_53, hq_53, hF⟩ := bn3_i hF
  refine cm_Vv (As := [.ref a_o1_coin]) (rest := []) (wr := [(a_t, .inr (7, [.ref a_t_keys, .ref a_t_weights, .ref a_t_towers, .ref a_t_coin, .int t_size, .int t_hidden])), (a_t_keys, .inl (y 0, 24, .inl (va_cpy o1_keys t_keys (0 : Int32).toNatClampNeg (0 : Int32).toNatClampNeg (24 : Int32).toNatClampNeg))), (a_t_weights, .inl (y 0, 24, .inl (va_cpy o1_weights t_weights (0 : Int32).toNatClampNeg (0 : Int32).toNatClampNeg (24 : Int32).toNatClampNeg))), (a_t_towers, .inl (y 0, 24, .inl (va_cpy o1_towers t_towers (0 : Int32).toNatClampNeg (0 : Int32).toNatClampNeg (24 : Int32).toNatClampNeg))), (a_o1, .inr (7, [.ref a_o1_keys, .ref a_o1_weights, .ref a_o1_towers, .ref a_o1_coin, .int o1_size, .int o1_hidden])), (a_o1_keys, .inl (y 0, 24, .inl o1_keys)), (a_o1_weights, .inl (y 0, 24, .inl o1_weights)), (a_o1_towers, .inl (y 0, 24, .inl o1_towers))]) ⟨hx, hb, hml, hown, hts⟩ (c_X1_copyFrom l D y fl H.size a_t_coin a_o1_coin t_coin_number t_coin_tossed t_coin_heads o1_coin_number o1_coin_tossed o1_coin_heads t_coin_number_53 t_coin_tossed_53 t_coin_heads_53 hq_53) (cwV 1 hts gX3_copyFrom_X1_copyFrom rfl rfl rfl (by decide +kernel) ⟨Nat.le_of_ble_eq_true rfl, Nat.le_of_ble_eq_true rfl⟩) hK hP hD hS hA [4, 9] [0, 1, 2, 3, 5, 6, 7, 8] rfl rfl rfl rfl (by decide) rfl rfl rfl hl.1 rfl (Nat.le_of_ble_eq_true rfl) dX3_copyFrom_53 ⟨Nat.le_of_ble_eq_true rfl, Nat.le_of_ble_eq_true rfl⟩ (fun H locs hP hD hS => ?_)
  have hP : va_P D vwCl [(a_t, .inr (7, [.ref a_t_keys, .ref a_t_weights, .ref a_t_towers, .ref a_t_coin, .int t_size, .int t_hidden])), (a_t_keys, .inl (y 0, 24, .inl (va_cpy o1_keys t_keys (0 : Int32).toNatClampNeg (0 : Int32).toNatClampNeg (24 : Int32).toNatClampNeg))), (a_t_weights, .inl (y 0, 24, .inl (va_cpy o1_weights t_weights (0 : Int32).toNatClampNeg (0 : Int32).toNatClampNeg (24 : Int32).toNatClampNeg))), (a_t_towers, .inl (y 0, 24, .inl (va_cpy o1_towers t_towers (0 : Int32).toNatClampNeg (0 : Int32).toNatClampNeg (24 : Int32).toNatClampNeg))), (a_o1, .inr (7, [.ref a_o1_keys, .ref a_o1_weights, .ref a_o1_towers, .ref a_o1_coin, .int o1_size, .int o1_hidden])), (a_o1_keys, .inl (y 0, 24, .inl o1_keys)), (a_o1_weights, .inl (y 0, 24, .inl o1_weights)), (a_o1_towers, .inl (y 0, 24, .inl o1_towers)), (a_t_coin, .inr (5, [.int t_coin_number_53, .int t_coin_tossed_53, .int t_coin_heads_53])), (a_o1_coin, .inr (5, [.int o1_coin_number, .int o1_coin_tossed, .int o1_coin_heads]))] H := hP
  have hD : va_D A [(a_t, .inr (7, [.ref a_t_keys, .ref a_t_weights, .ref a_t_towers, .ref a_t_coin, .int t_size, .int t_hidden])), (a_t_keys, .inl (y 0, 24, .inl (va_cpy o1_keys t_keys (0 : Int32).toNatClampNeg (0 : Int32).toNatClampNeg (24 : Int32).toNatClampNeg))), (a_t_weights, .inl (y 0, 24, .inl (va_cpy o1_weights t_weights (0 : Int32).toNatClampNeg (0 : Int32).toNatClampNeg (24 : Int32).toNatClampNeg))), (a_t_towers, .inl (y 0, 24, .inl (va_cpy o1_towers t_towers (0 : Int32).toNatClampNeg (0 : Int32).toNatClampNeg (24 : Int32).toNatClampNeg))), (a_o1, .inr (7, [.ref a_o1_keys, .ref a_o1_weights, .ref a_o1_towers, .ref a_o1_coin, .int o1_size, .int o1_hidden])), (a_o1_keys, .inl (y 0, 24, .inl o1_keys)), (a_o1_weights, .inl (y 0, 24, .inl o1_weights)), (a_o1_towers, .inl (y 0, 24, .inl o1_towers)), (a_t_coin, .inr (5, [.int t_coin_number_53, .int t_coin_tossed_53, .int t_coin_heads_53])), (a_o1_coin, .inr (5, [.int o1_coin_number, .int o1_coin_tossed, .int o1_coin_heads]))] := hD
  refine lv_aload_n hx hb dX3_copyFrom_56 rfl (lv_at hl 0 rfl) ?_
  refine lv_aload_n hx hb dX3_copyFrom_57 rfl (lv_at hl 1 rfl) ?_
  refine va_get (D := D) (ci := 7) (v := .int o1_size) (C := RX3) (T := TX3) (N := 6) hx hb hts iX3_copyFrom_X3 hown hK hP 4 rfl rfl 4 (by decide) (hts (.fieldLink RX3 28 "SkipArchive$Ladder" "size" "I") (List.mem_of_getElem? (i := 9) rfl)) (fun _ h9 => h9) rfl dX3_copyFrom_58 ?_
  refine va_put (D := D) (ci := 7) (v := .int o1_size) (ty := .int) (C := RX3) (T := TX3) (N := 6) hx hb hts iX3_copyFrom_X3 tyX3 tyX3_ok nmX3 hown hK hP hD hS 0 rfl rfl 4 (by decide) (hts (.fieldLink RX3 28 "SkipArchive$Ladder" "size" "I") (List.mem_of_getElem? (i := 9) rfl)) (fun _ h9 => h9) rfl (by decide +kernel) rfl rfl (Nat.le_of_ble_eq_true rfl) dX3_copyFrom_61 (fun H locs hP hD hS => ?_)
  have hP : va_P D vwCl [(a_t, .inr (7, [.ref a_t_keys, .ref a_t_weights, .ref a_t_towers, .ref a_t_coin, .int o1_size, .int t_hidden])), (a_t_keys, .inl (y 0, 24, .inl (va_cpy o1_keys t_keys (0 : Int32).toNatClampNeg (0 : Int32).toNatClampNeg (24 : Int32).toNatClampNeg))), (a_t_weights, .inl (y 0, 24, .inl (va_cpy o1_weights t_weights (0 : Int32).toNatClampNeg (0 : Int32).toNatClampNeg (24 : Int32).toNatClampNeg))), (a_t_towers, .inl (y 0, 24, .inl (va_cpy o1_towers t_towers (0 : Int32).toNatClampNeg (0 : Int32).toNatClampNeg (24 : Int32).toNatClampNeg))), (a_o1, .inr (7, [.ref a_o1_keys, .ref a_o1_weights, .ref a_o1_towers, .ref a_o1_coin, .int o1_size, .int o1_hidden])), (a_o1_keys, .inl (y 0, 24, .inl o1_keys)), (a_o1_weights, .inl (y 0, 24, .inl o1_weights)), (a_o1_towers, .inl (y 0, 24, .inl o1_towers)), (a_t_coin, .inr (5, [.int t_coin_number_53, .int t_coin_tossed_53, .int t_coin_heads_53])), (a_o1_coin, .inr (5, [.int o1_coin_number, .int o1_coin_tossed, .int o1_coin_heads]))] H := hP
  have hD : va_D A [(a_t, .inr (7, [.ref a_t_keys, .ref a_t_weights, .ref a_t_towers, .ref a_t_coin, .int o1_size, .int t_hidden])), (a_t_keys, .inl (y 0, 24, .inl (va_cpy o1_keys t_keys (0 : Int32).toNatClampNeg (0 : Int32).toNatClampNeg (24 : Int32).toNatClampNeg))), (a_t_weights, .inl (y 0, 24, .inl (va_cpy o1_weights t_weights (0 : Int32).toNatClampNeg (0 : Int32).toNatClampNeg (24 : Int32).toNatClampNeg))), (a_t_towers, .inl (y 0, 24, .inl (va_cpy o1_towers t_towers (0 : Int32).toNatClampNeg (0 : Int32).toNatClampNeg (24 : Int32).toNatClampNeg))), (a_o1, .inr (7, [.ref a_o1_keys, .ref a_o1_weights, .ref a_o1_towers, .ref a_o1_coin, .int o1_size, .int o1_hidden])), (a_o1_keys, .inl (y 0, 24, .inl o1_keys)), (a_o1_weights, .inl (y 0, 24, .inl o1_weights)), (a_o1_towers, .inl (y 0, 24, .inl o1_towers)), (a_t_coin, .inr (5, [.int t_coin_number_53, .int t_coin_tossed_53, .int t_coin_heads_53])), (a_o1_coin, .inr (5, [.int o1_coin_number, .int o1_coin_tossed, .int o1_coin_heads]))] := hD
  refine lv_aload_n hx hb dX3_copyFrom_64 rfl (lv_at hl 0 rfl) ?_
  refine lv_aload_n hx hb dX3_copyFrom_65 rfl (lv_at hl 1 rfl) ?_
  refine va_get (D := D) (ci := 7) (v := .int o1_hidden) (C := RX3) (T := TX3) (N := 6) hx hb hts iX3_copyFrom_X3 hown hK hP 4 rfl rfl 5 (by decide) (hts (.fieldLink RX3 32 "SkipArchive$Ladder" "hidden" "I") (List.mem_of_getElem? (i := 10) rfl)) (fun _ h9 => h9) rfl dX3_copyFrom_66 ?_
  refine va_put (D := D) (ci := 7) (v := .int o1_hidden) (ty := .int) (C := RX3) (T := TX3) (N := 6) hx hb hts iX3_copyFrom_X3 tyX3 tyX3_ok nmX3 hown hK hP hD hS 0 rfl rfl 5 (by decide) (hts (.fieldLink RX3 32 "SkipArchive$Ladder" "hidden" "I") (List.mem_of_getElem? (i := 10) rfl)) (fun _ h9 => h9) rfl (by decide +kernel) rfl rfl (Nat.le_of_ble_eq_true rfl) dX3_copyFrom_69 (fun H locs hP hD hS => ?_)
  have hP : va_P D vwCl [(a_t, .inr (7, [.ref a_t_keys, .ref a_t_weights, .ref a_t_towers, .ref a_t_coin, .int o1_size, .int o1_hidden])), (a_t_keys, .inl (y 0, 24, .inl (va_cpy o1_keys t_keys (0 : Int32).toNatClampNeg (0 : Int32).toNatClampNeg (24 : Int32).toNatClampNeg))), (a_t_weights, .inl (y 0, 24, .inl (va_cpy o1_weights t_weights (0 : Int32).toNatClampNeg (0 : Int32).toNatClampNeg (24 : Int32).toNatClampNeg))), (a_t_towers, .inl (y 0, 24, .inl (va_cpy o1_towers t_towers (0 : Int32).toNatClampNeg (0 : Int32).toNatClampNeg (24 : Int32).toNatClampNeg))), (a_o1, .inr (7, [.ref a_o1_keys, .ref a_o1_weights, .ref a_o1_towers, .ref a_o1_coin, .int o1_size, .int o1_hidden])), (a_o1_keys, .inl (y 0, 24, .inl o1_keys)), (a_o1_weights, .inl (y 0, 24, .inl o1_weights)), (a_o1_towers, .inl (y 0, 24, .inl o1_towers)), (a_t_coin, .inr (5, [.int t_coin_number_53, .int t_coin_tossed_53, .int t_coin_heads_53])), (a_o1_coin, .inr (5, [.int o1_coin_number, .int o1_coin_tossed, .int o1_coin_heads]))] H := hP
  have hD : va_D A [(a_t, .inr (7, [.ref a_t_keys, .ref a_t_weights, .ref a_t_towers, .ref a_t_coin, .int o1_size, .int o1_hidden])), (a_t_keys, .inl (y 0, 24, .inl (va_cpy o1_keys t_keys (0 : Int32).toNatClampNeg (0 : Int32).toNatClampNeg (24 : Int32).toNatClampNeg))), (a_t_weights, .inl (y 0, 24, .inl (va_cpy o1_weights t_weights (0 : Int32).toNatClampNeg (0 : Int32).toNatClampNeg (24 : Int32).toNatClampNeg))), (a_t_towers, .inl (y 0, 24, .inl (va_cpy o1_towers t_towers (0 : Int32).toNatClampNeg (0 : Int32).toNatClampNeg (24 : Int32).toNatClampNeg))), (a_o1, .inr (7, [.ref a_o1_keys, .ref a_o1_weights, .ref a_o1_towers, .ref a_o1_coin, .int o1_size, .int o1_hidden])), (a_o1_keys, .inl (y 0, 24, .inl o1_keys)), (a_o1_weights, .inl (y 0, 24, .inl o1_weights)), (a_o1_towers, .inl (y 0, 24, .inl o1_towers)), (a_t_coin, .inr (5, [.int t_coin_number_53, .int t_coin_tossed_53, .int t_coin_heads_53])), (a_o1_coin, .inr (5, [.int o1_coin_number, .int o1_coin_tossed, .int o1_coin_heads]))] := hD
  obtain ⟨e0_72, e1_72, e2_72, e3_72, e4_72, e5_72, e6_72, e7_72⟩ := inj8 hF
  rw [← e0_72, ← e1_72, ← e2_72, ← e3_72, ← e4_72, ← e5_72, ← e6_72, ← e7_72] at hQ0
  rw [hQ0]
  exact ret_v hx hb hr hlocks hAe hK hP hD hS [0, 1, 2, 3, 8, 4, 5, 6, 7, 9] rfl rfl dX3_copyFrom_72
def F_J6_bitCount_0f7a4 (fl : Nat) (p0 : Int32) : Option (Int32) := some ((((((((p0 - (((p0.toUInt32 >>> ((1 : Int32).toUInt32 &&& Int32.toUInt32 31)).toInt32) &&& (1431655765))) &&& (858993459)) + ((((p0 - (((p0.toUInt32 >>> ((1 : Int32).toUInt32 &&& Int32.toUInt32 31)).toInt32) &&& (1431655765))).toUInt32 >>> ((2 : Int32).toUInt32 &&& Int32.toUInt32 31)).toInt32) &&& (858993459))) + (((((p0 - (((p0.toUInt32 >>> ((1 : Int32).toUInt32 &&& Int32.toUInt32 31)).toInt32) &&& (1431655765))) &&& (858993459)) + ((((p0 - (((p0.toUInt32 >>> ((1 : Int32).toUInt32 &&& Int32.toUInt32 31)).toInt32) &&& (1431655765))).toUInt32 >>> ((2 : Int32).toUInt32 &&& Int32.toUInt32 31)).toInt32) &&& (858993459))).toUInt32 >>> ((4 : Int32).toUInt32 &&& Int32.toUInt32 31)).toInt32)) &&& (252645135)) + (((((((p0 - (((p0.toUInt32 >>> ((1 : Int32).toUInt32 &&& Int32.toUInt32 31)).toInt32) &&& (1431655765))) &&& (858993459)) + ((((p0 - (((p0.toUInt32 >>> ((1 : Int32).toUInt32 &&& Int32.toUInt32 31)).toInt32) &&& (1431655765))).toUInt32 >>> ((2 : Int32).toUInt32 &&& Int32.toUInt32 31)).toInt32) &&& (858993459))) + (((((p0 - (((p0.toUInt32 >>> ((1 : Int32).toUInt32 &&& Int32.toUInt32 31)).toInt32) &&& (1431655765))) &&& (858993459)) + ((((p0 - (((p0.toUInt32 >>> ((1 : Int32).toUInt32 &&& Int32.toUInt32 31)).toInt32) &&& (1431655765))).toUInt32 >>> ((2 : Int32).toUInt32 &&& Int32.toUInt32 31)).toInt32) &&& (858993459))).toUInt32 >>> ((4 : Int32).toUInt32 &&& Int32.toUInt32 31)).toInt32)) &&& (252645135)).toUInt32 >>> ((8 : Int32).toUInt32 &&& Int32.toUInt32 31)).toInt32)) + ((((((((p0 - (((p0.toUInt32 >>> ((1 : Int32).toUInt32 &&& Int32.toUInt32 31)).toInt32) &&& (1431655765))) &&& (858993459)) + ((((p0 - (((p0.toUInt32 >>> ((1 : Int32).toUInt32 &&& Int32.toUInt32 31)).toInt32) &&& (1431655765))).toUInt32 >>> ((2 : Int32).toUInt32 &&& Int32.toUInt32 31)).toInt32) &&& (858993459))) + (((((p0 - (((p0.toUInt32 >>> ((1 : Int32).toUInt32 &&& Int32.toUInt32 31)).toInt32) &&& (1431655765))) &&& (858993459)) + ((((p0 - (((p0.toUInt32 >>> ((1 : Int32).toUInt32 &&& Int32.toUInt32 31)).toInt32) &&& (1431655765))).toUInt32 >>> ((2 : Int32).toUInt32 &&& Int32.toUInt32 31)).toInt32) &&& (858993459))).toUInt32 >>> ((4 : Int32).toUInt32 &&& Int32.toUInt32 31)).toInt32)) &&& (252645135)) + (((((((p0 - (((p0.toUInt32 >>> ((1 : Int32).toUInt32 &&& Int32.toUInt32 31)).toInt32) &&& (1431655765))) &&& (858993459)) + ((((p0 - (((p0.toUInt32 >>> ((1 : Int32).toUInt32 &&& Int32.toUInt32 31)).toInt32) &&& (1431655765))).toUInt32 >>> ((2 : Int32).toUInt32 &&& Int32.toUInt32 31)).toInt32) &&& (858993459))) + (((((p0 - (((p0.toUInt32 >>> ((1 : Int32).toUInt32 &&& Int32.toUInt32 31)).toInt32) &&& (1431655765))) &&& (858993459)) + ((((p0 - (((p0.toUInt32 >>> ((1 : Int32).toUInt32 &&& Int32.toUInt32 31)).toInt32) &&& (1431655765))).toUInt32 >>> ((2 : Int32).toUInt32 &&& Int32.toUInt32 31)).toInt32) &&& (858993459))).toUInt32 >>> ((4 : Int32).toUInt32 &&& Int32.toUInt32 31)).toInt32)) &&& (252645135)).toUInt32 >>> ((8 : Int32).toUInt32 &&& Int32.toUInt32 31)).toInt32)).toUInt32 >>> ((16 : Int32).toUInt32 &&& Int32.toUInt32 31)).toInt32)) &&& (63 : Int32))
set_option maxHeartbeats 4000000 in
set_option maxRecDepth 100000 in
theorem c_J6_bitCount_0f7a4 (l : Launch) (D : va_G) (y : Nat → ClassId) (fl : Nat) (p0 : Int32) (r : Int32) (hF : F_J6_bitCount_0f7a4 fl p0 = some r) : Met l yJ6_bitCount_0f7a4 wsJ6_bitCount_0f7a4 (rmq 0 0) (rdP D y [] [.int p0]) (QcRead r) 0 0 (fun _ => False) := by
  refine Met.ofW (cc := cJ6_bitCount_0f7a4) (maxL := 1) (ret := (some .int)) (by decide) rfl ?_
  intro p e s m args below meth c s₁ B hml hv
  obtain ⟨hav, hP, hK⟩ := hv
  have hx := B.exec
  have hb := B.bytes
  have hr := B.returns
  have hts := atoms_spec (ws := wsJ6_bitCount_0f7a4) B.pre
  have hown : s.vm.findClass RJ6 = some m.cls := findClass_of_methodNamed B.named
  have hlocks := B.notSynchronized
  refine W_q (R1 := (rmq 0 0)) rfl (fun Q0 hQ0 => ?_)
  unfold F_J6_bitCount_0f7a4 at hF
  refine W_entry hav (Nat.le_of_ble_eq_true rfl) (fun ls hl => ?_)
  have hl : lv_has ls 1 [(0, .int p0)] := hl
  refine lv_iload_n hx hb dJ6_bitCount_0f7a4_0 rfl (lv_at hl 0 rfl) ?_
  refine lv_iload_n hx hb dJ6_bitCount_0f7a4_1 rfl (lv_at hl 0 rfl) ?_
  refine lv_iconst (v := 1) hx hb dJ6_bitCount_0f7a4_2 (by decide) ?_
  refine lv_iushr hx hb dJ6_bitCount_0f7a4_3 rfl ?_
  refine lv_ldcw (v := (1431655765)) hx hb hown (hts (.constant RJ6 265 (1431655765)) (List.mem_of_getElem? (i := 1) rfl)) dJ6_bitCount_0f7a4_4 ?_
  refine lv_iand hx hb dJ6_bitCount_0f7a4_7 ?_
  refine lv_isub hx hb dJ6_bitCount_0f7a4_8 ?_
  refine lv_istore_n (lv' := [(0, .int (p0 - (((p0.toUInt32 >>> ((1 : Int32).toUInt32 &&& Int32.toUInt32 31)).toInt32) &&& (1431655765))))]) hx hb dJ6_bitCount_0f7a4_9 rfl hl (by decide) rfl (fun ls hl => ?_)
  refine lv_iload_n hx hb dJ6_bitCount_0f7a4_10 rfl (lv_at hl 0 rfl) ?_
  refine lv_ldcw (v := (858993459)) hx hb hown (hts (.constant RJ6 266 (858993459)) (List.mem_of_getElem? (i := 2) rfl)) dJ6_bitCount_0f7a4_11 ?_
  refine lv_iand hx hb dJ6_bitCount_0f7a4_14 ?_
  refine lv_iload_n hx hb dJ6_bitCount_0f7a4_15 rfl (lv_at hl 0 rfl) ?_
  refine lv_iconst (v := 2) hx hb dJ6_bitCount_0f7a4_16 (by decide) ?_
  refine lv_iushr hx hb dJ6_bitCount_0f7a4_17 rfl ?_
  refine lv_ldcw (v := (858993459)) hx hb hown (hts (.constant RJ6 266 (858993459)) (List.mem_of_getElem? (i := 2) rfl)) dJ6_bitCount_0f7a4_18 ?_
  refine lv_iand hx hb dJ6_bitCount_0f7a4_21 ?_
  refine lv_iadd hx hb dJ6_bitCount_0f7a4_22 ?_
  refine lv_istore_n (lv' := [(0, .int (((p0 - (((p0.toUInt32 >>> ((1 : Int32).toUInt32 &&& Int32.toUInt32 31)).toInt32) &&& (1431655765))) &&& (858993459)) + ((((p0 - (((p0.toUInt32 >>> ((1 : Int32).toUInt32 &&& Int32.toUInt32 31)).toInt32) &&& (1431655765))).toUInt32 >>> ((2 : Int32).toUInt32 &&& Int32.toUInt32 31)).toInt32) &&& (858993459))))]) hx hb dJ6_bitCount_0f7a4_23 rfl hl (by decide) rfl (fun ls hl => ?_)
  refine lv_iload_n hx hb dJ6_bitCount_0f7a4_24 rfl (lv_at hl 0 rfl) ?_
  refine lv_iload_n hx hb dJ6_bitCount_0f7a4_25 rfl (lv_at hl 0 rfl) ?_
  refine lv_iconst (v := 4) hx hb dJ6_bitCount_0f7a4_26 (by decide) ?_
  refine lv_iushr hx hb dJ6_bitCount_0f7a4_27 rfl ?_
  refine lv_iadd hx hb dJ6_bitCount_0f7a4_28 ?_
  refine lv_ldcw (v := (252645135)) hx hb hown (hts (.constant RJ6 267 (252645135)) (List.mem_of_getElem? (i := 3) rfl)) dJ6_bitCount_0f7a4_29 ?_
  refine lv_iand hx hb dJ6_bitCount_0f7a4_32 ?_
  refine lv_istore_n (lv' := [(0, .int (((((p0 - (((p0.toUInt32 >>> ((1 : Int32).toUInt32 &&& Int32.toUInt32 31)).toInt32) &&& (1431655765))) &&& (858993459)) + ((((p0 - (((p0.toUInt32 >>> ((1 : Int32).toUInt32 &&& Int32.toUInt32 31)).toInt32) &&& (1431655765))).toUInt32 >>> ((2 : Int32).toUInt32 &&& Int32.toUInt32 31)).toInt32) &&& (858993459))) + (((((p0 - (((p0.toUInt32 >>> ((1 : Int32).toUInt32 &&& Int32.toUInt32 31)).toInt32) &&& (1431655765))) &&& (858993459)) + ((((p0 - (((p0.toUInt32 >>> ((1 : Int32).toUInt32 &&& Int32.toUInt32 31)).toInt32) &&& (1431655765))).toUInt32 >>> ((2 : Int32).toUInt32 &&& Int32.toUInt32 31)).toInt32) &&& (858993459))).toUInt32 >>> ((4 : Int32).toUInt32 &&& Int32.toUInt32 31)).toInt32)) &&& (252645135)))]) hx hb dJ6_bitCount_0f7a4_33 rfl hl (by decide) rfl (fun ls hl => ?_)
  refine lv_iload_n hx hb dJ6_bitCount_0f7a4_34 rfl (lv_at hl 0 rfl) ?_
  refine lv_iload_n hx hb dJ6_bitCount_0f7a4_35 rfl (lv_at hl 0 rfl) ?_
  refine lv_bipush (v := 8) hx hb dJ6_bitCount_0f7a4_36 (by decide) ?_
  refine lv_iushr hx hb dJ6_bitCount_0f7a4_38 rfl ?_
  refine lv_iadd hx hb dJ6_bitCount_0f7a4_39 ?_
  refine lv_istore_n (lv' := [(0, .int ((((((p0 - (((p0.toUInt32 >>> ((1 : Int32).toUInt32 &&& Int32.toUInt32 31)).toInt32) &&& (1431655765))) &&& (858993459)) + ((((p0 - (((p0.toUInt32 >>> ((1 : Int32).toUInt32 &&& Int32.toUInt32 31)).toInt32) &&& (1431655765))).toUInt32 >>> ((2 : Int32).toUInt32 &&& Int32.toUInt32 31)).toInt32) &&& (858993459))) + (((((p0 - (((p0.toUInt32 >>> ((1 : Int32).toUInt32 &&& Int32.toUInt32 31)).toInt32) &&& (1431655765))) &&& (858993459)) + ((((p0 - (((p0.toUInt32 >>> ((1 : Int32).toUInt32 &&& Int32.toUInt32 31)).toInt32) &&& (1431655765))).toUInt32 >>> ((2 : Int32).toUInt32 &&& Int32.toUInt32 31)).toInt32) &&& (858993459))).toUInt32 >>> ((4 : Int32).toUInt32 &&& Int32.toUInt32 31)).toInt32)) &&& (252645135)) + (((((((p0 - (((p0.toUInt32 >>> ((1 : Int32).toUInt32 &&& Int32.toUInt32 31)).toInt32) &&& (1431655765))) &&& (858993459)) + ((((p0 - (((p0.toUInt32 >>> ((1 : Int32).toUInt32 &&& Int32.toUInt32 31)).toInt32) &&& (1431655765))).toUInt32 >>> ((2 : Int32).toUInt32 &&& Int32.toUInt32 31)).toInt32) &&& (858993459))) + (((((p0 - (((p0.toUInt32 >>> ((1 : Int32).toUInt32 &&& Int32.toUInt32 31)).toInt32) &&& (1431655765))) &&& (858993459)) + ((((p0 - (((p0.toUInt32 >>> ((1 : Int32).toUInt32 &&& Int32.toUInt32 31)).toInt32) &&& (1431655765))).toUInt32 >>> ((2 : Int32).toUInt32 &&& Int32.toUInt32 31)).toInt32) &&& (858993459))).toUInt32 >>> ((4 : Int32).toUInt32 &&& Int32.toUInt32 31)).toInt32)) &&& (252645135)).toUInt32 >>> ((8 : Int32).toUInt32 &&& Int32.toUInt32 31)).toInt32)))]) hx hb dJ6_bitCount_0f7a4_40 rfl hl (by decide) rfl (fun ls hl => ?_)
  refine lv_iload_n hx hb dJ6_bitCount_0f7a4_41 rfl (lv_at hl 0 rfl) ?_
  refine lv_iload_n hx hb dJ6_bitCount_0f7a4_42 rfl (lv_at hl 0 rfl) ?_
  refine lv_bipush (v := 16) hx hb dJ6_bitCount_0f7a4_43 (by decide) ?_
  refine lv_iushr hx hb dJ6_bitCount_0f7a4_45 rfl ?_
  refine lv_iadd hx hb dJ6_bitCount_0f7a4_46 ?_
  refine lv_istore_n (lv' := [(0, .int (((((((p0 - (((p0.toUInt32 >>> ((1 : Int32).toUInt32 &&& Int32.toUInt32 31)).toInt32) &&& (1431655765))) &&& (858993459)) + ((((p0 - (((p0.toUInt32 >>> ((1 : Int32).toUInt32 &&& Int32.toUInt32 31)).toInt32) &&& (1431655765))).toUInt32 >>> ((2 : Int32).toUInt32 &&& Int32.toUInt32 31)).toInt32) &&& (858993459))) + (((((p0 - (((p0.toUInt32 >>> ((1 : Int32).toUInt32 &&& Int32.toUInt32 31)).toInt32) &&& (1431655765))) &&& (858993459)) + ((((p0 - (((p0.toUInt32 >>> ((1 : Int32).toUInt32 &&& Int32.toUInt32 31)).toInt32) &&& (1431655765))).toUInt32 >>> ((2 : Int32).toUInt32 &&& Int32.toUInt32 31)).toInt32) &&& (858993459))).toUInt32 >>> ((4 : Int32).toUInt32 &&& Int32.toUInt32 31)).toInt32)) &&& (252645135)) + (((((((p0 - (((p0.toUInt32 >>> ((1 : Int32).toUInt32 &&& Int32.toUInt32 31)).toInt32) &&& (1431655765))) &&& (858993459)) + ((((p0 - (((p0.toUInt32 >>> ((1 : Int32).toUInt32 &&& Int32.toUInt32 31)).toInt32) &&& (1431655765))).toUInt32 >>> ((2 : Int32).toUInt32 &&& Int32.toUInt32 31)).toInt32) &&& (858993459))) + (((((p0 - (((p0.toUInt32 >>> ((1 : Int32).toUInt32 &&& Int32.toUInt32 31)).toInt32) &&& (1431655765))) &&& (858993459)) + ((((p0 - (((p0.toUInt32 >>> ((1 : Int32).toUInt32 &&& Int32.toUInt32 31)).toInt32) &&& (1431655765))).toUInt32 >>> ((2 : Int32).toUInt32 &&& Int32.toUInt32 31)).toInt32) &&& (858993459))).toUInt32 >>> ((4 : Int32).toUInt32 &&& Int32.toUInt32 31)).toInt32)) &&& (252645135)).toUInt32 >>> ((8 : Int32).toUInt32 &&& Int32.toUInt32 31)).toInt32)) + ((((((((p0 - (((p0.toUInt32 >>> ((1 : Int32).toUInt32 &&& Int32.toUInt32 31)).toInt32) &&& (1431655765))) &&& (858993459)) + ((((p0 - (((p0.toUInt32 >>> ((1 : Int32).toUInt32 &&& Int32.toUInt32 31)).toInt32) &&& (1431655765))).toUInt32 >>> ((2 : Int32).toUInt32 &&& Int32.toUInt32 31)).toInt32) &&& (858993459))) + (((((p0 - (((p0.toUInt32 >>> ((1 : Int32).toUInt32 &&& Int32.toUInt32 31)).toInt32) &&& (1431655765))) &&& (858993459)) + ((((p0 - (((p0.toUInt32 >>> ((1 : Int32).toUInt32 &&& Int32.toUInt32 31)).toInt32) &&& (1431655765))).toUInt32 >>> ((2 : Int32).toUInt32 &&& Int32.toUInt32 31)).toInt32) &&& (858993459))).toUInt32 >>> ((4 : Int32).toUInt32 &&& Int32.toUInt32 31)).toInt32)) &&& (252645135)) + (((((((p0 - (((p0.toUInt32 >>> ((1 : Int32).toUInt32 &&& Int32.toUInt32 31)).toInt32) &&& (1431655765))) &&& (858993459)) + ((((p0 - (((p0.toUInt32 >>> ((1 : Int32).toUInt32 &&& Int32.toUInt32 31)).toInt32) &&& (1431655765))).toUInt32 >>> ((2 : Int32).toUInt32 &&& Int32.toUInt32 31)).toInt32) &&& (858993459))) + (((((p0 - (((p0.toUInt32 >>> ((1 : Int32).toUInt32 &&& Int32.toUInt32 31)).toInt32) &&& (1431655765))) &&& (858993459)) + ((((p0 - (((p0.toUInt32 >>> ((1 : Int32).toUInt32 &&& Int32.toUInt32 31)).toInt32) &&& (1431655765))).toUInt32 >>> ((2 : Int32).toUInt32 &&& Int32.toUInt32 31)).toInt32) &&& (858993459))).toUInt32 >>> ((4 : Int32).toUInt32 &&& Int32.toUInt32 31)).toInt32)) &&& (252645135)).toUInt32 >>> ((8 : Int32).toUInt32 &&& Int32.toUInt32 31)).toInt32)).toUInt32 >>> ((16 : Int32).toUInt32 &&& Int32.toUInt32 31)).toInt32)))]) hx hb dJ6_bitCount_0f7a4_47 rfl hl (by decide) rfl (fun ls hl => ?_)
  refine lv_iload_n hx hb dJ6_bitCount_0f7a4_48 rfl (lv_at hl 0 rfl) ?_
  refine lv_bipush (v := 63) hx hb dJ6_bitCount_0f7a4_49 (by decide) ?_
  refine lv_iand hx hb dJ6_bitCount_0f7a4_51 ?_
  obtain e0_52 := inj1 hF
  rw [← e0_52] at hQ0
  rw [hQ0]
  exact W.iret (v := (((((((p0 - (((p0.toUInt32 >>> ((1 : Int32).toUInt32 &&& Int32.toUInt32 31)).toInt32) &&& (1431655765))) &&& (858993459)) + ((((p0 - (((p0.toUInt32 >>> ((1 : Int32).toUInt32 &&& Int32.toUInt32 31)).toInt32) &&& (1431655765))).toUInt32 >>> ((2 : Int32).toUInt32 &&& Int32.toUInt32 31)).toInt32) &&& (858993459))) + (((((p0 - (((p0.toUInt32 >>> ((1 : Int32).toUInt32 &&& Int32.toUInt32 31)).toInt32) &&& (1431655765))) &&& (858993459)) + ((((p0 - (((p0.toUInt32 >>> ((1 : Int32).toUInt32 &&& Int32.toUInt32 31)).toInt32) &&& (1431655765))).toUInt32 >>> ((2 : Int32).toUInt32 &&& Int32.toUInt32 31)).toInt32) &&& (858993459))).toUInt32 >>> ((4 : Int32).toUInt32 &&& Int32.toUInt32 31)).toInt32)) &&& (252645135)) + (((((((p0 - (((p0.toUInt32 >>> ((1 : Int32).toUInt32 &&& Int32.toUInt32 31)).toInt32) &&& (1431655765))) &&& (858993459)) + ((((p0 - (((p0.toUInt32 >>> ((1 : Int32).toUInt32 &&& Int32.toUInt32 31)).toInt32) &&& (1431655765))).toUInt32 >>> ((2 : Int32).toUInt32 &&& Int32.toUInt32 31)).toInt32) &&& (858993459))) + (((((p0 - (((p0.toUInt32 >>> ((1 : Int32).toUInt32 &&& Int32.toUInt32 31)).toInt32) &&& (1431655765))) &&& (858993459)) + ((((p0 - (((p0.toUInt32 >>> ((1 : Int32).toUInt32 &&& Int32.toUInt32 31)).toInt32) &&& (1431655765))).toUInt32 >>> ((2 : Int32).toUInt32 &&& Int32.toUInt32 31)).toInt32) &&& (858993459))).toUInt32 >>> ((4 : Int32).toUInt32 &&& Int32.toUInt32 31)).toInt32)) &&& (252645135)).toUInt32 >>> ((8 : Int32).toUInt32 &&& Int32.toUInt32 31)).toInt32)) + ((((((((p0 - (((p0.toUInt32 >>> ((1 : Int32).toUInt32 &&& Int32.toUInt32 31)).toInt32) &&& (1431655765))) &&& (858993459)) + ((((p0 - (((p0.toUInt32 >>> ((1 : Int32).toUInt32 &&& Int32.toUInt32 31)).toInt32) &&& (1431655765))).toUInt32 >>> ((2 : Int32).toUInt32 &&& Int32.toUInt32 31)).toInt32) &&& (858993459))) + (((((p0 - (((p0.toUInt32 >>> ((1 : Int32).toUInt32 &&& Int32.toUInt32 31)).toInt32) &&& (1431655765))) &&& (858993459)) + ((((p0 - (((p0.toUInt32 >>> ((1 : Int32).toUInt32 &&& Int32.toUInt32 31)).toInt32) &&& (1431655765))).toUInt32 >>> ((2 : Int32).toUInt32 &&& Int32.toUInt32 31)).toInt32) &&& (858993459))).toUInt32 >>> ((4 : Int32).toUInt32 &&& Int32.toUInt32 31)).toInt32)) &&& (252645135)) + (((((((p0 - (((p0.toUInt32 >>> ((1 : Int32).toUInt32 &&& Int32.toUInt32 31)).toInt32) &&& (1431655765))) &&& (858993459)) + ((((p0 - (((p0.toUInt32 >>> ((1 : Int32).toUInt32 &&& Int32.toUInt32 31)).toInt32) &&& (1431655765))).toUInt32 >>> ((2 : Int32).toUInt32 &&& Int32.toUInt32 31)).toInt32) &&& (858993459))) + (((((p0 - (((p0.toUInt32 >>> ((1 : Int32).toUInt32 &&& Int32.toUInt32 31)).toInt32) &&& (1431655765))) &&& (858993459)) + ((((p0 - (((p0.toUInt32 >>> ((1 : Int32).toUInt32 &&& Int32.toUInt32 31)).toInt32) &&& (1431655765))).toUInt32 >>> ((2 : Int32).toUInt32 &&& Int32.toUInt32 31)).toInt32) &&& (858993459))).toUInt32 >>> ((4 : Int32).toUInt32 &&& Int32.toUInt32 31)).toInt32)) &&& (252645135)).toUInt32 >>> ((8 : Int32).toUInt32 &&& Int32.toUInt32 31)).toInt32)).toUInt32 >>> ((16 : Int32).toUInt32 &&& Int32.toUInt32 31)).toInt32)) &&& (63 : Int32)) hx hb hr (fun t ht hW => ⟨rfl, ht⟩) (fun _ h => nomatch h) dJ6_bitCount_0f7a4_52
def F_X3_hiddenLevels (fl : Nat) (t_hidden : Int32) : Option (Int32) := bn (F_J6_bitCount_0f7a4 fl t_hidden) fun r_4 => some r_4
theorem iX3_hiddenLevels_X3 : ∀ w ∈ u_ws RX3 TX3 6, w ∈ wsX3_hiddenLevels := fun w h => List.mem_cons_of_mem _ (List.mem_append_right _ h)
set_option maxHeartbeats 4000000 in
set_option maxRecDepth 100000 in
theorem c_X3_hiddenLevels (l : Launch) (D : va_G) (y : Nat → ClassId) (fl : Nat) (a_t : Nat) (a_t_keys : Nat) (a_t_weights : Nat) (a_t_towers : Nat) (a_t_coin : Nat) (t_size : Int32) (t_hidden : Int32) (r : Int32) (hF : F_X3_hiddenLevels fl t_hidden = some r) : Met l yX3_hiddenLevels wsX3_hiddenLevels (rmq 1 20) (rdP D y [(a_t, .inr (7, [.ref a_t_keys, .ref a_t_weights, .ref a_t_towers, .ref a_t_coin, .int t_size, .int t_hidden]))] [.ref a_t]) (QcRead r) 0 0 (fun _ => False) := by
  refine Met.ofW (cc := cX3_hiddenLevels) (maxL := 1) (ret := (some .int)) (by decide) rfl ?_
  intro p e s m args below meth c s₁ B hml hv
  obtain ⟨hav, hP, hK⟩ := hv
  have hx := B.exec
  have hb := B.bytes
  have hr := B.returns
  have hts := atoms_spec (ws := wsX3_hiddenLevels) B.pre
  have hown : s.vm.findClass RX3 = some m.cls := findClass_of_methodNamed B.named
  have hlocks := B.notSynchronized
  refine W_q (R1 := (rmq 1 20)) rfl (fun Q0 hQ0 => ?_)
  unfold F_X3_hiddenLevels at hF
  refine W_entry hav (Nat.le_of_ble_eq_true rfl) (fun ls hl => ?_)
  have hl : lv_has ls 1 [(0, .ref a_t)] := hl
  refine lv_aload_n hx hb dX3_hiddenLevels_0 rfl (lv_at hl 0 rfl) ?_
  refine va_get (D := D) (ci := 7) (v := .int t_hidden) (C := RX3) (T := TX3) (N := 6) hx hb hts iX3_hiddenLevels_X3 hown hK hP 0 rfl rfl 5 (by decide) (hts (.fieldLink RX3 32 "SkipArchive$Ladder" "hidden" "I") (List.mem_of_getElem? (i := 1) rfl)) (fun _ h9 => h9) rfl dX3_hiddenLevels_1 ?_
  obtain ⟨r_4, hq_4, hF⟩ := bn_i hF
  refine cr_S (As := [.int t_hidden]) (rest := []) ⟨hx, hb, hml, hown, hts⟩ (c_J6_bitCount_0f7a4 l D y fl t_hidden r_4 hq_4) (va_cwS 1 hts gX3_hiddenLevels_J6_bitCount_0f7a4 rfl rfl rfl (by decide +kernel) ⟨Nat.le_of_ble_eq_true rfl, Nat.le_of_ble_eq_true rfl⟩) hK hP [] rfl rfl hl.1 rfl (Nat.le_of_ble_eq_true rfl) dX3_hiddenLevels_4 ⟨Nat.le_of_ble_eq_true rfl, Nat.le_of_ble_eq_true rfl⟩ ?_
  obtain e0_7 := inj1 hF
  rw [← e0_7] at hQ0
  rw [hQ0]
  exact W.iret (v := r_4) hx hb hr (fun t ht hW => ⟨rfl, ht⟩) (fun _ h => nomatch h) dX3_hiddenLevels_7
