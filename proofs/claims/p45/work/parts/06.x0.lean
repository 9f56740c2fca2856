def F_X0_hasRefused (fl : Nat) (t_keptReason : Int32) : Option (Int32) := if t_keptReason = 0 then (some (0 : Int32)) else (some (1 : Int32))
theorem iX0_hasRefused_X0 : ∀ w ∈ u_ws RX0 TX0 5, w ∈ wsX0_hasRefused := fun w h => List.mem_cons_of_mem _ (List.mem_append_right _ h)
set_option maxHeartbeats 4000000 in
set_option maxRecDepth 100000 in
theorem c_X0_hasRefused (l : Launch) (D : va_G) (y : Nat → ClassId) (fl : Nat) (a_t : Nat) (a_t_ladder : Nat) (t_detail : Int32) (t_keptReason : Int32) (t_keptDetail : Int32) (t_keptIndex : Int32) (r : Int32) (hF : F_X0_hasRefused fl t_keptReason = some r) : Met l yX0_hasRefused wsX0_hasRefused (rmq 0 0) (rdP D y [(a_t, .inr (4, [.ref a_t_ladder, .int t_detail, .int t_keptReason, .int t_keptDetail, .int t_keptIndex]))] [.ref a_t]) (QcRead r) 0 0 (fun _ => False) := by
  refine Met.ofW (cc := cX0_hasRefused) (maxL := 1) (ret := (some .boolean)) (by decide) rfl ?_
  intro p e s m args below meth c s₁ B hml hv
  obtain ⟨hav, hP, hK⟩ := hv
  have hx := B.exec
  have hb := B.bytes
  have hr := B.returns
  have hts := atoms_spec (ws := wsX0_hasRefused) B.pre
  have hown : s.vm.findClass RX0 = some m.cls := findClass_of_methodNamed B.named
  have hlocks := B.notSynchronized
  refine W_q (R1 := (rmq 0 0)) rfl (fun Q0 hQ0 => ?_)
  unfold F_X0_hasRefused at hF
  refine W_entry hav (Nat.le_of_ble_eq_true rfl) (fun ls hl => ?_)
  have hl : lv_has ls 1 [(0, .ref a_t)] := hl
  refine lv_aload_n hx hb dX0_hasRefused_0 rfl (lv_at hl 0 rfl) ?_
  refine va_get (D := D) (ci := 4) (v := .int t_keptReason) (C := RX0) (T := TX0) (N := 5) hx hb hts iX0_hasRefused_X0 hown hK hP 0 rfl rfl 2 (by decide) (hts (.fieldLink RX0 15 "SkipArchive$Clerk" "keptReason" "I") (List.mem_of_getElem? (i := 1) rfl)) (fun _ h9 => h9) rfl dX0_hasRefused_1 ?_
  refine lv_if_eq (tgt := 11) hx hb dX0_hasRefused_4 (by decide) (fun c_4 => ?_) (fun c_4 => ?_)
  · have hF := ift hF c_4
    refine lv_iconst (v := 0) hx hb dX0_hasRefused_11 (by decide) ?_
    obtain e0_12 := inj1 hF
    rw [← e0_12] at hQ0
    rw [hQ0]
    exact W.zret (v := (0 : Int32)) hx hb hr (by decide +kernel) (fun t ht hW => ⟨rfl, ht⟩) (fun _ h => nomatch h) dX0_hasRefused_12
  · have hF := iff_ hF c_4
    refine lv_iconst (v := 1) hx hb dX0_hasRefused_7 (by decide) ?_
    refine lv_goto (tgt := 12) hx hb dX0_hasRefused_8 (by decide) ?_
    obtain e0_12 := inj1 hF
    rw [← e0_12] at hQ0
    rw [hQ0]
    exact W.zret (v := (1 : Int32)) hx hb hr (by decide +kernel) (fun t ht hW => ⟨rfl, ht⟩) (fun _ h => nomatch h) dX0_hasRefused_12
def F_X0_keptReason (fl : Nat) (t_keptReason : Int32) : Option (Int32) := some t_keptReason
theorem iX0_keptReason_X0 : ∀ w ∈ u_ws RX0 TX0 5, w ∈ wsX0_keptReason := fun w h => List.mem_cons_of_mem _ (List.mem_append_right _ h)
set_option maxHeartbeats 4000000 in
set_option maxRecDepth 100000 in
theorem c_X0_keptReason (l : Launch) (D : va_G) (y : Nat → ClassId) (fl : Nat) (a_t : Nat) (a_t_ladder : Nat) (t_detail : Int32) (t_keptReason : Int32) (t_keptDetail : Int32) (t_keptIndex : Int32) (r : Int32) (hF : F_X0_keptReason fl t_keptReason = some r) : Met l yX0_keptReason wsX0_keptReason (rmq 0 0) (rdP D y [(a_t, .inr (4, [.ref a_t_ladder, .int t_detail, .int t_keptReason, .int t_keptDetail, .int t_keptIndex]))] [.ref a_t]) (QcRead r) 0 0 (fun _ => False) := by
  refine Met.ofW (cc := cX0_keptReason) (maxL := 1) (ret := (some .int)) (by decide) rfl ?_
  intro p e s m args below meth c s₁ B hml hv
  obtain ⟨hav, hP, hK⟩ := hv
  have hx := B.exec
  have hb := B.bytes
  have hr := B.returns
  have hts := atoms_spec (ws := wsX0_keptReason) B.pre
  have hown : s.vm.findClass RX0 = some m.cls := findClass_of_methodNamed B.named
  have hlocks := B.notSynchronized
  refine W_q (R1 := (rmq 0 0)) rfl (fun Q0 hQ0 => ?_)
  unfold F_X0_keptReason at hF
  refine W_entry hav (Nat.le_of_ble_eq_true rfl) (fun ls hl => ?_)
  have hl : lv_has ls 1 [(0, .ref a_t)] := hl
  refine lv_aload_n hx hb dX0_keptReason_0 rfl (lv_at hl 0 rfl) ?_
  refine va_get (D := D) (ci := 4) (v := .int t_keptReason) (C := RX0) (T := TX0) (N := 5) hx hb hts iX0_keptReason_X0 hown hK hP 0 rfl rfl 2 (by decide) (hts (.fieldLink RX0 15 "SkipArchive$Clerk" "keptReason" "I") (List.mem_of_getElem? (i := 1) rfl)) (fun _ h9 => h9) rfl dX0_keptReason_1 ?_
  obtain e0_4 := inj1 hF
  rw [← e0_4] at hQ0
  rw [hQ0]
  exact W.iret (v := t_keptReason) hx hb hr (fun t ht hW => ⟨rfl, ht⟩) (fun _ h => nomatch h) dX0_keptReason_4
def F_X0_keptDetail (fl : Nat) (t_keptDetail : Int32) : Option (Int32) := some t_keptDetail
theorem iX0_keptDetail_X0 : ∀ w ∈ u_ws RX0 TX0 5, w ∈ wsX0_keptDetail := fun w h => List.mem_cons_of_mem _ (List.mem_append_right _ h)
set_option maxHeartbeats 4000000 in
set_option maxRecDepth 100000 in
theorem c_X0_keptDetail (l : Launch) (D : va_G) (y : Nat → ClassId) (fl : Nat) (a_t : Nat) (a_t_ladder : Nat) (t_detail : Int32) (t_keptReason : Int32) (t_keptDetail : Int32) (t_keptIndex : Int32) (r : Int32) (hF : F_X0_keptDetail fl t_keptDetail = some r) : Met l yX0_keptDetail wsX0_keptDetail (rmq 0 0) (rdP D y [(a_t, .inr (4, [.ref a_t_ladder, .int t_detail, .int t_keptReason, .int t_keptDetail, .int t_keptIndex]))] [.ref a_t]) (QcRead r) 0 0 (fun _ => False) := by
  refine Met.ofW (cc := cX0_keptDetail) (maxL := 1) (ret := (some .int)) (by decide) rfl ?_
  intro p e s m args below meth c s₁ B hml hv
  obtain ⟨hav, hP, hK⟩ := hv
  have hx := B.exec
  have hb := B.bytes
  have hr := B.returns
  have hts := atoms_spec (ws := wsX0_keptDetail) B.pre
  have hown : s.vm.findClass RX0 = some m.cls := findClass_of_methodNamed B.named
  have hlocks := B.notSynchronized
  refine W_q (R1 := (rmq 0 0)) rfl (fun Q0 hQ0 => ?_)
  unfold F_X0_keptDetail at hF
  refine W_entry hav (Nat.le_of_ble_eq_true rfl) (fun ls hl => ?_)
  have hl : lv_has ls 1 [(0, .ref a_t)] := hl
  refine lv_aload_n hx hb dX0_keptDetail_0 rfl (lv_at hl 0 rfl) ?_
  refine va_get (D := D) (ci := 4) (v := .int t_keptDetail) (C := RX0) (T := TX0) (N := 5) hx hb hts iX0_keptDetail_X0 hown hK hP 0 rfl rfl 3 (by decide) (hts (.fieldLink RX0 18 "SkipArchive$Clerk" "keptDetail" "I") (List.mem_of_getElem? (i := 1) rfl)) (fun _ h9 => h9) rfl dX0_keptDetail_1 ?_
  obtain e0_4 := inj1 hF
  rw [← e0_4] at hQ0
  rw [hQ0]
  exact W.iret (v := t_keptDetail) hx hb hr (fun t ht hW => ⟨rfl, ht⟩) (fun _ h => nomatch h) dX0_keptDetail_4
def F_X0_keptIndex (fl : Nat) (t_keptIndex : Int32) : Option (Int32) := some t_keptIndex
theorem iX0_keptIndex_X0 : ∀ w ∈ u_ws RX0 TX0 5, w ∈ wsX0_keptIndex := fun w h => List.mem_cons_of_mem _ (List.mem_append_right _ h)
set_option maxHeartbeats 4000000 in
set_option maxRecDepth 100000 in
theorem c_X0_keptIndex (l : Launch) (D : va_G) (y : Nat → ClassId) (fl : Nat) (a_t : Nat) (a_t_ladder : Nat) (t_detail : Int32) (t_keptReason : Int32) (t_keptDetail : Int32) (t_keptIndex : Int32) (r : Int32) (hF : F_X0_keptIndex fl t_keptIndex = some r) : Met l yX0_keptIndex wsX0_keptIndex (rmq 0 0) (rdP D y [(a_t, .inr (4, [.ref a_t_ladder, .int t_detail, .int t_keptReason, .int t_keptDetail, .int t_keptIndex]))] [.ref a_t]) (QcRead r) 0 0 (fun _ => False) := by
  refine Met.ofW (cc := cX0_keptIndex) (maxL := 1) (ret := (some .int)) (by decide) rfl ?_
  intro p e s m args below meth c s₁ B hml hv
  obtain ⟨hav, hP, hK⟩ := hv
  have hx := B.exec
  have hb := B.bytes
  have hr := B.returns
  have hts := atoms_spec (ws := wsX0_keptIndex) B.pre
  have hown : s.vm.findClass RX0 = some m.cls := findClass_of_methodNamed B.named
  have hlocks := B.notSynchronized
  refine W_q (R1 := (rmq 0 0)) rfl (fun Q0 hQ0 => ?_)
  unfold F_X0_keptIndex at hF
  refine W_entry hav (Nat.le_of_ble_eq_true rfl) (fun ls hl => ?_)
  have hl : lv_has ls 1 [(0, .ref a_t)] := hl
  refine lv_aload_n hx hb dX0_keptIndex_0 rfl (lv_at hl 0 rfl) ?_
  refine va_get (D := D) (ci := 4) (v := .int t_keptIndex) (C := RX0) (T := TX0) (N := 5) hx hb hts iX0_keptIndex_X0 hown hK hP 0 rfl rfl 4 (by decide) (hts (.fieldLink RX0 21 "SkipArchive$Clerk" "keptIndex" "I") (List.mem_of_getElem? (i := 1) rfl)) (fun _ h9 => h9) rfl dX0_keptIndex_1 ?_
  obtain e0_4 := inj1 hF
  rw [← e0_4] at hQ0
  rw [hQ0]
  exact W.iret (v := t_keptIndex) hx hb hr (fun t ht hW => ⟨rfl, ht⟩) (fun _ h => nomatch h) dX0_keptIndex_4
def F_X0_outside (fl : Nat) (p0 : Int32) (p1 : Int32) (p2 : Int32) : Option (Int32) := if p0 < p1 then (some (1 : Int32)) else (if p0 ≤ p2 then (some (0 : Int32)) else (some (1 : Int32)))
set_option maxHeartbeats 4000000 in
set_option maxRecDepth 100000 in
theorem c_X0_outside (l : Launch) (D : va_G) (y : Nat → ClassId) (fl : Nat) (p0 : Int32) (p1 : Int32) (p2 : Int32) (r : Int32) (hF : F_X0_outside fl p0 p1 p2 = some r) : Met l yX0_outside wsX0_outside (rmq 0 0) (rdP D y [] [.int p0, .int p1, .int p2]) (QcRead r) 0 0 (fun _ => False) := by
  refine Met.ofW (cc := cX0_outside) (maxL := 3) (ret := (some .boolean)) (by decide) rfl ?_
  intro p e s m args below meth c s₁ B hml hv
  obtain ⟨hav, hP, hK⟩ := hv
  have hx := B.exec
  have hb := B.bytes
  have hr := B.returns
  have hts := atoms_spec (ws := wsX0_outside) B.pre
  have hown : s.vm.findClass RX0 = some m.cls := findClass_of_methodNamed B.named
  have hlocks := B.notSynchronized
  refine W_q (R1 := (rmq 0 0)) rfl (fun Q0 hQ0 => ?_)
  unfold F_X0_outside at hF
  refine W_entry hav (Nat.le_of_ble_eq_true rfl) (fun ls hl => ?_)
  have hl : lv_has ls 3 [(0, .int p0), (1, .int p1), (2, .int p2)] := hl
  refine lv_iload_n hx hb dX0_outside_0 rfl (lv_at hl 0 rfl) ?_
  refine lv_iload_n hx hb dX0_outside_1 rfl (lv_at hl 1 rfl) ?_
  refine lv_icmp_lt (tgt := 10) hx hb dX0_outside_2 (by decide) (fun c_2 => ?_) (fun c_2 => ?_)
  · have hF := ift hF c_2
    refine lv_iconst (v := 1) hx hb dX0_outside_10 (by decide) ?_
    refine lv_goto (tgt := 15) hx hb dX0_outside_11 (by decide) ?_
    obtain e0_15 := inj1 hF
    rw [← e0_15] at hQ0
    rw [hQ0]
    exact W.zret (v := (1 : Int32)) hx hb hr (by decide +kernel) (fun t ht hW => ⟨rfl, ht⟩) (fun _ h => nomatch h) dX0_outside_15
  · have hF := iff_ hF c_2
    refine lv_iload_n hx hb dX0_outside_5 rfl (lv_at hl 0 rfl) ?_
    refine lv_iload_n hx hb dX0_outside_6 rfl (lv_at hl 2 rfl) ?_
    refine lv_icmp_le (tgt := 14) hx hb dX0_outside_7 (by decide) (fun c_7 => ?_) (fun c_7 => ?_)
    · have hF := ift hF c_7
      refine lv_iconst (v := 0) hx hb dX0_outside_14 (by decide) ?_
      obtain e0_15 := inj1 hF
      rw [← e0_15] at hQ0
      rw [hQ0]
      exact W.zret (v := (0 : Int32)) hx hb hr (by decide +kernel) (fun t ht hW => ⟨rfl, ht⟩) (fun _ h => nomatch h) dX0_outside_15
    · have hF := iff_ hF c_7
      refine lv_iconst (v := 1) hx hb dX0_outside_10 (by decide) ?_
      refine lv_goto (tgt := 15) hx hb dX0_outside_11 (by decide) ?_
      obtain e0_15 := inj1 hF
      rw [← e0_15] at hQ0
      rw [hQ0]
      exact W.zret (v := (1 : Int32)) hx hb hr (by decide +kernel) (fun t ht hW => ⟨rfl, ht⟩) (fun _ h => nomatch h) dX0_outside_15
def F_X0_refusal (fl : Nat) (t_detail : Int32) (p1 : Int32) (p2 : Int32) : Option (Int32 × Int32) := some (p1, p2)
theorem iX0_refusal_X0 : ∀ w ∈ u_ws RX0 TX0 5, w ∈ wsX0_refusal := fun w h => List.mem_cons_of_mem _ (List.mem_append_right _ h)
set_option maxHeartbeats 4000000 in
set_option maxRecDepth 100000 in
theorem c_X0_refusal (l : Launch) (D : va_G) (y : Nat → ClassId) (fl : Nat) (sz : Nat) (a_t : Nat) (a_t_ladder : Nat) (t_detail : Int32) (t_keptReason : Int32) (t_keptDetail : Int32) (t_keptIndex : Int32) (p1 : Int32) (p2 : Int32) (r : Int32) (t_detail' : Int32) (hF : F_X0_refusal fl t_detail p1 p2 = some (r, t_detail')) : Met l yX0_refusal wsX0_refusal (rmq 0 0) (wrP D y [(a_t, .inr (4, [.ref a_t_ladder, .int t_detail, .int t_keptReason, .int t_keptDetail, .int t_keptIndex]))] sz [.ref a_t, .int p1, .int p2]) (wQi D y r [(a_t, .inr (4, [.ref a_t_ladder, .int t_detail', .int t_keptReason, .int t_keptDetail, .int t_keptIndex]))] [(a_t, .inr (4, [.ref a_t_ladder, .int t_detail, .int t_keptReason, .int t_keptDetail, .int t_keptIndex]))] sz) 0 0 (va_A [(a_t, .inr (4, [.ref a_t_ladder, .int t_detail, .int t_keptReason, .int t_keptDetail, .int t_keptIndex]))] sz) := by
  refine Met.ofW (cc := cX0_refusal) (maxL := 3) (ret := (some .int)) (by decide) rfl ?_
  intro p e s m args below meth c s₁ B hml hv
  obtain ⟨hav, hsz, hP, hK, hD0⟩ := hv
  have hx := B.exec
  have hb := B.bytes
  have hr := B.returns
  have hts := atoms_spec (ws := wsX0_refusal) B.pre
  have hown : s.vm.findClass RX0 = some m.cls := findClass_of_methodNamed B.named
  have hlocks := B.notSynchronized
  subst hsz
  have hD := hD0.self (sz := s.heap.size)
  obtain ⟨A, hAe⟩ : ∃ A : Nat → Prop, va_A [(a_t, .inr (4, [.ref a_t_ladder, .int t_detail, .int t_keptReason, .int t_keptDetail, .int t_keptIndex]))] s.heap.size = A := ⟨_, rfl⟩
  rw [hAe] at hD
  have hA : ∀ q, s.heap.size ≤ q → A q := fun q h => by rw [← hAe]; exact Or.inr h
  have hS : va_S A s.heap s.heap [] := va_S.rf
  refine W_q (R1 := (rmq 0 0)) rfl (fun Q0 hQ0 => ?_)
  unfold F_X0_refusal at hF
  refine W_entry hav (Nat.le_of_ble_eq_true rfl) (fun ls hl => ?_)
  have hl : lv_has ls 3 [(0, .ref a_t), (1, .int p1), (2, .int p2)] := hl
  refine lv_aload_n hx hb dX0_refusal_0 rfl (lv_at hl 0 rfl) ?_
  refine lv_iload_n hx hb dX0_refusal_1 rfl (lv_at hl 2 rfl) ?_
  refine va_put (D := D) (ci := 4) (v := .int p2) (ty := .int) (C := RX0) (T := TX0) (N := 5) hx hb hts iX0_refusal_X0 tyX0 tyX0_ok nmX0 hown hK hP hD hS 0 rfl rfl 1 (by decide) (hts (.fieldLink RX0 9 "SkipArchive$Clerk" "detail" "I") (List.mem_of_getElem? (i := 1) rfl)) (fun _ h9 => h9) rfl (by decide +kernel) rfl rfl (Nat.le_of_ble_eq_true rfl) dX0_refusal_2 (fun H locs hP hD hS => ?_)
  have hP : va_P D vwCl [(a_t, .inr (4, [.ref a_t_ladder, .int p2, .int t_keptReason, .int t_keptDetail, .int t_keptIndex]))] H := hP
  have hD : va_D A [(a_t, .inr (4, [.ref a_t_ladder, .int p2, .int t_keptReason, .int t_keptDetail, .int t_keptIndex]))] := hD
  refine lv_iload_n hx hb dX0_refusal_5 rfl (lv_at hl 1 rfl) ?_
  obtain ⟨e0_6, e1_6⟩ := inj2 hF
  rw [← e0_6, ← e1_6] at hQ0
  rw [hQ0]
  exact ret_i hx hb hr hlocks hAe hK hP hD hS [0] rfl rfl dX0_refusal_6
def F_X0_againstWeight (fl : Nat) (t_detail : Int32) (p1 : Int32) (p2 : Int32) : Option (Int32 × Int32) := if p1 = p2 then (bn2 (F_X0_refusal fl t_detail (7 : Int32) p1) fun r_9 t_detail_9 => some (r_9, t_detail_9)) else (some ((0 : Int32), t_detail))
set_option maxHeartbeats 4000000 in
set_option maxRecDepth 100000 in
theorem c_X0_againstWeight (l : Launch) (D : va_G) (y : Nat → ClassId) (fl : Nat) (sz : Nat) (a_t : Nat) (a_t_ladder : Nat) (t_detail : Int32) (t_keptReason : Int32) (t_keptDetail : Int32) (t_keptIndex : Int32) (p1 : Int32) (p2 : Int32) (r : Int32) (t_detail' : Int32) (hF : F_X0_againstWeight fl t_detail p1 p2 = some (r, t_detail')) : Met l yX0_againstWeight wsX0_againstWeight (rmq 1 22) (wrP D y [(a_t, .inr (4, [.ref a_t_ladder, .int t_detail, .int t_keptReason, .int t_keptDetail, .int t_keptIndex]))] sz [.ref a_t, .int p1, .int p2]) (wQi D y r [(a_t, .inr (4, [.ref a_t_ladder, .int t_detail', .int t_keptReason, .int t_keptDetail, .int t_keptIndex]))] [(a_t, .inr (4, [.ref a_t_ladder, .int t_detail, .int t_keptReason, .int t_keptDetail, .int t_keptIndex]))] sz) 0 0 (va_A [(a_t, .inr (4, [.ref a_t_ladder, .int t_detail, .int t_keptReason, .int t_keptDetail, .int t_keptIndex]))] sz) := by
  refine Met.ofW (cc := cX0_againstWeight) (maxL := 3) (ret := (some .int)) (by decide) rfl ?_
  intro p e s m args below meth c s₁ B hml hv
  obtain ⟨hav, hsz, hP, hK, hD0⟩ := hv
  have hx := B.exec
  have hb := B.bytes
  have hr := B.returns
  have hts := atoms_spec (ws := wsX0_againstWeight) B.pre
  have hown : s.vm.findClass RX0 = some m.cls := findClass_of_methodNamed B.named
  have hlocks := B.notSynchronized
  subst hsz
  have hD := hD0.self (sz := s.heap.size)
  obtain ⟨A, hAe⟩ : ∃ A : Nat → Prop, va_A [(a_t, .inr (4, [.ref a_t_ladder, .int t_detail, .int t_keptReason, .int t_keptDetail, .int t_keptIndex]))] s.heap.size = A := ⟨_, rfl⟩
  rw [hAe] at hD
  have hA : ∀ q, s.heap.size ≤ q → A q := fun q h => by rw [← hAe]; exact Or.inr h
  have hS : va_S A s.heap s.heap [] := va_S.rf
  refine W_q (R1 := (rmq 1 22)) rfl (fun Q0 hQ0 => ?_)
  unfold F_X0_againstWeight at hF
  refine W_entry hav (Nat.le_of_ble_eq_true rfl) (fun ls hl => ?_)
  have hl : lv_has ls 3 [(0, .ref a_t), (1, .int p1), (2, .int p2)] := hl
  refine lv_iload_n hx hb dX0_againstWeight_0 rfl (lv_at hl 1 rfl) ?_
  refine lv_iload_n hx hb dX0_againstWeight_1 rfl (lv_at hl 2 rfl) ?_
  refine lv_icmp_ne (tgt := 15) hx hb dX0_againstWeight_2 (by decide) (fun c_2 => ?_) (fun c_2 => ?_)
  · have hF := iff_ hF c_2
    refine lv_iconst (v := 0) hx hb dX0_againstWeight_15 (by decide) ?_
    obtain ⟨e0_16, e1_16⟩ := inj2 hF
    rw [← e0_16, ← e1_16] at hQ0
    rw [hQ0]
    exact ret_i hx hb hr hlocks hAe hK hP hD hS [0] rfl rfl dX0_againstWeight_16
  · have hF := ift hF c_2
    refine lv_aload_n hx hb dX0_againstWeight_5 rfl (lv_at hl 0 rfl) ?_
    refine lv_bipush (v := 7) hx hb dX0_againstWeight_6 (by decide) ?_
    refine lv_iload_n hx hb dX0_againstWeight_8 rfl (lv_at hl 1 rfl) ?_
    obtain ⟨r_9, t_detail_9, hq_9, hF⟩ := bn2_i hF
    refine cm_Vi (As := [.int (7 : Int32), .int p1]) (rest := []) (wr := []) ⟨hx, hb, hml, hown, hts⟩ (c_X0_refusal l D y fl s.heap.size a_t a_t_ladder t_detail t_keptReason t_keptDetail t_keptIndex (7 : Int32) p1 r_9 t_detail_9 hq_9) (cwV 2 hts gX0_againstWeight_X0_refusal rfl rfl rfl (by decide +kernel) ⟨Nat.le_of_ble_eq_true rfl, Nat.le_of_ble_eq_true rfl⟩) hK hP hD hS hA [0] [] rfl rfl rfl rfl (by decide) rfl rfl rfl hl.1 rfl (Nat.le_of_ble_eq_true rfl) dX0_againstWeight_9 ⟨Nat.le_of_ble_eq_true rfl, Nat.le_of_ble_eq_true rfl⟩ (fun H locs hP hD hS => ?_)
    have hP : va_P D vwCl [(a_t, .inr (4, [.ref a_t_ladder, .int t_detail_9, .int t_keptReason, .int t_keptDetail, .int t_keptIndex]))] H := hP
    have hD : va_D A [(a_t, .inr (4, [.ref a_t_ladder, .int t_detail_9, .int t_keptReason, .int t_keptDetail, .int t_keptIndex]))] := hD
    refine lv_goto (tgt := 16) hx hb dX0_againstWeight_12 (by decide) ?_
    obtain ⟨e0_16, e1_16⟩ := inj2 hF
    rw [← e0_16, ← e1_16] at hQ0
    rw [hQ0]
    exact ret_i hx hb hr hlocks hAe hK hP hD hS [0] rfl rfl dX0_againstWeight_16
def F_X0_againstTower (fl : Nat) (t_detail : Int32) (p1 : Int32) (p2 : Int32) : Option (Int32 × Int32) := if p1 = (117 : Int32) then (if (5 : Int32) ≤ p2 then (if (1 : Int32) = 0 then (some ((0 : Int32), t_detail)) else (bn2 (F_X0_refusal fl t_detail (5 : Int32) p2) fun r_35bbb t_detail_35bbb => some (r_35bbb, t_detail_35bbb))) else (if p1 = (100 : Int32) then (if (1 : Int32) < p2 then (if (0 : Int32) = 0 then (some ((0 : Int32), t_detail)) else (bn2 (F_X0_refusal fl t_detail (5 : Int32) p2) fun r_35bbbbb t_detail_35bbbbb => some (r_35bbbbb, t_detail_35bbbbb))) else (if (1 : Int32) = 0 then (some ((0 : Int32), t_detail)) else (bn2 (F_X0_refusal fl t_detail (5 : Int32) p2) fun r_35bbbbbb t_detail_35bbbbbb => some (r_35bbbbbb, t_detail_35bbbbbb)))) else (if (0 : Int32) = 0 then (some ((0 : Int32), t_detail)) else (bn2 (F_X0_refusal fl t_detail (5 : Int32) p2) fun r_35bbbb t_detail_35bbbb => some (r_35bbbb, t_detail_35bbbb))))) else (if p1 = (100 : Int32) then (if (1 : Int32) < p2 then (if (0 : Int32) = 0 then (some ((0 : Int32), t_detail)) else (bn2 (F_X0_refusal fl t_detail (5 : Int32) p2) fun r_35b t_detail_35b => some (r_35b, t_detail_35b))) else (if (1 : Int32) = 0 then (some ((0 : Int32), t_detail)) else (bn2 (F_X0_refusal fl t_detail (5 : Int32) p2) fun r_35bb t_detail_35bb => some (r_35bb, t_detail_35bb)))) else (if (0 : Int32) = 0 then (some ((0 : Int32), t_detail)) else (bn2 (F_X0_refusal fl t_detail (5 : Int32) p2) fun r_35 t_detail_35 => some (r_35, t_detail_35))))
set_option maxHeartbeats 4000000 in
set_option maxRecDepth 100000 in
theorem c_X0_againstTower (l : Launch) (D : va_G) (y : Nat → ClassId) (fl : Nat) (sz : Nat) (a_t : Nat) (a_t_ladder : Nat) (t_detail : Int32) (t_keptReason : Int32) (t_keptDetail : Int32) (t_keptIndex : Int32) (p1 : Int32) (p2 : Int32) (r : Int32) (t_detail' : Int32) (hF : F_X0_againstTower fl t_detail p1 p2 = some (r, t_detail')) : Met l yX0_againstTower wsX0_againstTower (rmq 1 22) (wrP D y [(a_t, .inr (4, [.ref a_t_ladder, .int t_detail, .int t_keptReason, .int t_keptDetail, .int t_keptIndex]))] sz [.ref a_t, .int p1, .int p2]) (wQi D y r [(a_t, .inr (4, [.ref a_t_ladder, .int t_detail', .int t_keptReason, .int t_keptDetail, .int t_keptIndex]))] [(a_t, .inr (4, [.ref a_t_ladder, .int t_detail, .int t_keptReason, .int t_keptDetail, .int t_keptIndex]))] sz) 0 0 (va_A [(a_t, .inr (4, [.ref a_t_ladder, .int t_detail, .int t_keptReason, .int t_keptDetail, .int t_keptIndex]))] sz) := by
  refine Met.ofW (cc := cX0_againstTower) (maxL := 4) (ret := (some .int)) (by decide) rfl ?_
  intro p e s m args below meth c s₁ B hml hv
  obtain ⟨hav, hsz, hP, hK, hD0⟩ := hv
  have hx := B.exec
  have hb := B.bytes
  have hr := B.returns
  have hts := atoms_spec (ws := wsX0_againstTower) B.pre
  have hown : s.vm.findClass RX0 = some m.cls := findClass_of_methodNamed B.named
  have hlocks := B.notSynchronized
  subst hsz
  have hD := hD0.self (sz := s.heap.size)
  obtain ⟨A, hAe⟩ : ∃ A : Nat → Prop, va_A [(a_t, .inr (4, [.ref a_t_ladder, .int t_detail, .int t_keptReason, .int t_keptDetail, .int t_keptIndex]))] s.heap.size = A := ⟨_, rfl⟩
  rw [hAe] at hD
  have hA : ∀ q, s.heap.size ≤ q → A q := fun q h => by rw [← hAe]; exact Or.inr h
  have hS : va_S A s.heap s.heap [] := va_S.rf
  refine W_q (R1 := (rmq 1 22)) rfl (fun Q0 hQ0 => ?_)
  unfold F_X0_againstTower at hF
  refine W_entry hav (Nat.le_of_ble_eq_true rfl) (fun ls hl => ?_)
  have hl : lv_has ls 4 [(0, .ref a_t), (1, .int p1), (2, .int p2)] := hl
  refine lv_iload_n hx hb dX0_againstTower_0 rfl (lv_at hl 1 rfl) ?_
  refine lv_bipush (v := 117) hx hb dX0_againstTower_1 (by decide) ?_
  refine lv_icmp_ne (tgt := 11) hx hb dX0_againstTower_3 (by decide) (fun c_3 => ?_) (fun c_3 => ?_)
  · have hF := iff_ hF c_3
    refine lv_iload_n hx hb dX0_againstTower_11 rfl (lv_at hl 1 rfl) ?_
    refine lv_bipush (v := 100) hx hb dX0_againstTower_12 (by decide) ?_
    refine lv_icmp_ne (tgt := 26) hx hb dX0_againstTower_14 (by decide) (fun c_14 => ?_) (fun c_14 => ?_)
    · have hF := iff_ hF c_14
      refine lv_iconst (v := 0) hx hb dX0_againstTower_26 (by decide) ?_
      refine lv_istore_n (lv' := [(3, .int (0 : Int32)), (0, .ref a_t), (1, .int p1), (2, .int p2)]) hx hb dX0_againstTower_27 rfl hl (by decide) rfl (fun ls hl => ?_)
      refine lv_iload_n hx hb dX0_againstTower_28 rfl (lv_at hl 0 rfl) ?_
      refine lv_if_eq (tgt := 41) hx hb dX0_againstTower_29 (by decide) (fun c_29 => ?_) (fun c_29 => ?_)
      · have hF := ift hF c_29
        refine lv_iconst (v := 0) hx hb dX0_againstTower_41 (by decide) ?_
        obtain ⟨e0_42, e1_42⟩ := inj2 hF
        rw [← e0_42, ← e1_42] at hQ0
        rw [hQ0]
        exact ret_i hx hb hr hlocks hAe hK hP hD hS [0] rfl rfl dX0_againstTower_42
      · have hF := iff_ hF c_29
        refine lv_aload_n hx hb dX0_againstTower_32 rfl (lv_at hl 1 rfl) ?_
        refine lv_iconst (v := 5) hx hb dX0_againstTower_33 (by decide) ?_
        refine lv_iload_n hx hb dX0_againstTower_34 rfl (lv_at hl 3 rfl) ?_
        obtain ⟨r_35, t_detail_35, hq_35, hF⟩ := bn2_i hF
        refine cm_Vi (As := [.int (5 : Int32), .int p2]) (rest := []) (wr := []) ⟨hx, hb, hml, hown, hts⟩ (c_X0_refusal l D y fl s.heap.size a_t a_t_ladder t_detail t_keptReason t_keptDetail t_keptIndex (5 : Int32) p2 r_35 t_detail_35 hq_35) (cwV 2 hts gX0_againstTower_X0_refusal rfl rfl rfl (by decide +kernel) ⟨Nat.le_of_ble_eq_true rfl, Nat.le_of_ble_eq_true rfl⟩) hK hP hD hS hA [0] [] rfl rfl rfl rfl (by decide) rfl rfl rfl hl.1 rfl (Nat.le_of_ble_eq_true rfl) dX0_againstTower_35 ⟨Nat.le_of_ble_eq_true rfl, Nat.le_of_ble_eq_true rfl⟩ (fun H locs hP hD hS => ?_)
        have hP : va_P D vwCl [(a_t, .inr (4, [.ref a_t_ladder, .int t_detail_35, .int t_keptReason, .int t_keptDetail, .int t_keptIndex]))] H := hP
        have hD : va_D A [(a_t, .inr (4, [.ref a_t_ladder, .int t_detail_35, .int t_keptReason, .int t_keptDetail, .int t_keptIndex]))] := hD
        refine lv_goto (tgt := 42) hx hb dX0_againstTower_38 (by decide) ?_
        obtain ⟨e0_42, e1_42⟩ := inj2 hF
        rw [← e0_42, ← e1_42] at hQ0
        rw [hQ0]
        exact ret_i hx hb hr hlocks hAe hK hP hD hS [0] rfl rfl dX0_againstTower_42
    · have hF := ift hF c_14
      refine lv_iload_n hx hb dX0_againstTower_17 rfl (lv_at hl 2 rfl) ?_
      refine lv_iconst (v := 1) hx hb dX0_againstTower_18 (by decide) ?_
      refine lv_icmp_gt (tgt := 26) hx hb dX0_againstTower_19 (by decide) (fun c_19 => ?_) (fun c_19 => ?_)
      · have hF := ift hF c_19
        refine lv_iconst (v := 0) hx hb dX0_againstTower_26 (by decide) ?_
        refine lv_istore_n (lv' := [(3, .int (0 : Int32)), (0, .ref a_t), (1, .int p1), (2, .int p2)]) hx hb dX0_againstTower_27 rfl hl (by decide) rfl (fun ls hl => ?_)
        refine lv_iload_n hx hb dX0_againstTower_28 rfl (lv_at hl 0 rfl) ?_
        refine lv_if_eq (tgt := 41) hx hb dX0_againstTower_29 (by decide) (fun c_29b => ?_) (fun c_29b => ?_)
        · have hF := ift hF c_29b
          refine lv_iconst (v := 0) hx hb dX0_againstTower_41 (by decide) ?_
          obtain ⟨e0_42, e1_42⟩ := inj2 hF
          rw [← e0_42, ← e1_42] at hQ0
          rw [hQ0]
          exact ret_i hx hb hr hlocks hAe hK hP hD hS [0] rfl rfl dX0_againstTower_42
        · have hF := iff_ hF c_29b
          refine lv_aload_n hx hb dX0_againstTower_32 rfl (lv_at hl 1 rfl) ?_
          refine lv_iconst (v := 5) hx hb dX0_againstTower_33 (by decide) ?_
          refine lv_iload_n hx hb dX0_againstTower_34 rfl (lv_at hl 3 rfl) ?_
          obtain ⟨r_35b, t_detail_35b, hq_35b, hF⟩ := bn2_i hF
          refine cm_Vi (As := [.int (5 : Int32), .int p2]) (rest := []) (wr := []) ⟨hx, hb, hml, hown, hts⟩ (c_X0_refusal l D y fl s.heap.size a_t a_t_ladder t_detail t_keptReason t_keptDetail t_keptIndex (5 : Int32) p2 r_35b t_detail_35b hq_35b) (cwV 2 hts gX0_againstTower_X0_refusal rfl rfl rfl (by decide +kernel) ⟨Nat.le_of_ble_eq_true rfl, Nat.le_of_ble_eq_true rfl⟩) hK hP hD hS hA [0] [] rfl rfl rfl rfl (by decide) rfl rfl rfl hl.1 rfl (Nat.le_of_ble_eq_true rfl) dX0_againstTower_35 ⟨Nat.le_of_ble_eq_true rfl, Nat.le_of_ble_eq_true rfl⟩ (fun H locs hP hD hS => ?_)
          have hP : va_P D vwCl [(a_t, .inr (4, [.ref a_t_ladder, .int t_detail_35b, .int t_keptReason, .int t_keptDetail, .int t_keptIndex]))] H := hP
          have hD : va_D A [(a_t, .inr (4, [.ref a_t_ladder, .int t_detail_35b, .int t_keptReason, .int t_keptDetail, .int t_keptIndex]))] := hD
          refine lv_goto (tgt := 42) hx hb dX0_againstTower_38 (by decide) ?_
          obtain ⟨e0_42, e1_42⟩ := inj2 hF
          rw [← e0_42, ← e1_42] at hQ0
          rw [hQ0]
          exact ret_i hx hb hr hlocks hAe hK hP hD hS [0] rfl rfl dX0_againstTower_42
      · have hF := iff_ hF c_19
        refine lv_iconst (v := 1) hx hb dX0_againstTower_22 (by decide) ?_
        refine lv_goto (tgt := 27) hx hb dX0_againstTower_23 (by decide) ?_
        refine lv_istore_n (lv' := [(3, .int (1 : Int32)), (0, .ref a_t), (1, .int p1), (2, .int p2)]) hx hb dX0_againstTower_27 rfl hl (by decide) rfl (fun ls hl => ?_)
        refine lv_iload_n hx hb dX0_againstTower_28 rfl (lv_at hl 0 rfl) ?_
        refine lv_if_eq (tgt := 41) hx hb dX0_againstTower_29 (by decide) (fun c_29bb => ?_) (fun c_29bb => ?_)
        · have hF := ift hF c_29bb
          refine lv_iconst (v := 0) hx hb dX0_againstTower_41 (by decide) ?_
          obtain ⟨e0_42, e1_42⟩ := inj2 hF
          rw [← e0_42, ← e1_42] at hQ0
          rw [hQ0]
          exact ret_i hx hb hr hlocks hAe hK hP hD hS [0] rfl rfl dX0_againstTower_42
        · have hF := iff_ hF c_29bb
          refine lv_aload_n hx hb dX0_againstTower_32 rfl (lv_at hl 1 rfl) ?_
          refine lv_iconst (v := 5) hx hb dX0_againstTower_33 (by decide) ?_
          refine lv_iload_n hx hb dX0_againstTower_34 rfl (lv_at hl 3 rfl) ?_
          obtain ⟨r_35bb, t_detail_35bb, hq_35bb, hF⟩ := bn2_i hF
          refine cm_Vi (As := [.int (5 : Int32), .int p2]) (rest := []) (wr := []) ⟨hx, hb, hml, hown, hts⟩ (c_X0_refusal l D y fl s.heap.size a_t a_t_ladder t_detail t_keptReason t_keptDetail t_keptIndex (5 : Int32) p2 r_35bb t_detail_35bb hq_35bb) (cwV 2 hts gX0_againstTower_X0_refusal rfl rfl rfl (by decide +kernel) ⟨Nat.le_of_ble_eq_true rfl, Nat.le_of_ble_eq_true rfl⟩) hK hP hD hS hA [0] [] rfl rfl rfl rfl (by decide) rfl rfl rfl hl.1 rfl (Nat.le_of_ble_eq_true rfl) dX0_againstTower_35 ⟨Nat.le_of_ble_eq_true rfl, Nat.le_of_ble_eq_true rfl⟩ (fun H locs hP hD hS => ?_)
          have hP : va_P D vwCl [(a_t, .inr (4, [.ref a_t_ladder, .int t_detail_35bb, .int t_keptReason, .int t_keptDetail, .int t_keptIndex]))] H := hP
          have hD : va_D A [(a_t, .inr (4, [.ref a_t_ladder, .int t_detail_35bb, .int t_keptReason, .int t_keptDetail, .int t_keptIndex]))] := hD
          refine lv_goto (tgt := 42) hx hb dX0_againstTower_38 (by decide) ?_
          obtain ⟨e0_42, e1_42⟩ := inj2 hF
          rw [← e0_42, ← e1_42] at hQ0
          rw [hQ0]
          exact ret_i hx hb hr hlocks hAe hK hP hD hS [0] rfl rfl dX0_againstTower_42
  · have hF := ift hF c_3
    refine lv_iload_n hx hb dX0_againstTower_6 rfl (lv_at hl 2 rfl) ?_
    refine lv_iconst (v := 5) hx hb dX0_againstTower_7 (by decide) ?_
    refine lv_icmp_ge (tgt := 22) hx hb dX0_againstTower_8 (by decide) (fun c_8 => ?_) (fun c_8 => ?_)
    · have hF := ift hF c_8
      refine lv_iconst (v := 1) hx hb dX0_againstTower_22 (by decide) ?_
      refine lv_goto (tgt := 27) hx hb dX0_againstTower_23 (by decide) ?_
      refine lv_istore_n (lv' := [(3, .int (1 : Int32)), (0, .ref a_t), (1, .int p1), (2, .int p2)]) hx hb dX0_againstTower_27 rfl hl (by decide) rfl (fun ls hl => ?_)
      refine lv_iload_n hx hb dX0_againstTower_28 rfl (lv_at hl 0 rfl) ?_
      refine lv_if_eq (tgt := 41) hx hb dX0_againstTower_29 (by decide) (fun c_29bbb => ?_) (fun c_29bbb => ?_)
      · have hF := ift hF c_29bbb
        refine lv_iconst (v := 0) hx hb dX0_againstTower_41 (by decide) ?_
        obtain ⟨e0_42, e1_42⟩ := inj2 hF
        rw [← e0_42, ← e1_42] at hQ0
        rw [hQ0]
        exact ret_i hx hb hr hlocks hAe hK hP hD hS [0] rfl rfl dX0_againstTower_42
      · have hF := iff_ hF c_29bbb
        refine lv_aload_n hx hb dX0_againstTower_32 rfl (lv_at hl 1 rfl) ?_
        refine lv_iconst (v := 5) hx hb dX0_againstTower_33 (by decide) ?_
        refine lv_iload_n hx hb dX0_againstTower_34 rfl (lv_at hl 3 rfl) ?_
        obtain ⟨r_35bbb, t_detail_35bbb, hq_35bbb, hF⟩ := bn2_i hF
        refine cm_Vi (As := [.int (5 : Int32), .int p2]) (rest := []) (wr := []) ⟨hx, hb, hml, hown, hts⟩ (c_X0_refusal l D y fl s.heap.size a_t a_t_ladder t_detail t_keptReason t_keptDetail t_keptIndex (5 : Int32) p2 r_35bbb t_detail_35bbb hq_35bbb) (cwV 2 hts gX0_againstTower_X0_refusal rfl rfl rfl (by decide +kernel) ⟨Nat.le_of_ble_eq_true rfl, Nat.le_of_ble_eq_true rfl⟩) hK hP hD hS hA [0] [] rfl rfl rfl rfl (by decide) rfl rfl rfl hl.1 rfl (Nat.le_of_ble_eq_true rfl) dX0_againstTower_35 ⟨Nat.le_of_ble_eq_true rfl, Nat.le_of_ble_eq_true rfl⟩ (fun H locs hP hD hS => ?_)
        have hP : va_P D vwCl [(a_t, .inr (4, [.ref a_t_ladder, .int t_detail_35bbb, .int t_keptReason, .int t_keptDetail, .int t_keptIndex]))] H := hP
        have hD : va_D A [(a_t, .inr (4, [.ref a_t_ladder, .int t_detail_35bbb, .int t_keptReason, .int t_keptDetail, .int t_keptIndex]))] := hD
        refine lv_goto (tgt := 42) hx hb dX0_againstTower_38 (by decide) ?_
        obtain ⟨e0_42, e1_42⟩ := inj2 hF
        rw [← e0_42, ← e1_42] at hQ0
        rw [hQ0]
        exact ret_i hx hb hr hlocks hAe hK hP hD hS [0] rfl rfl dX0_againstTower_42
    · have hF := iff_ hF c_8
      refine lv_iload_n hx hb dX0_againstTower_11 rfl (lv_at hl 1 rfl) ?_
      refine lv_bipush (v := 100) hx hb dX0_againstTower_12 (by decide) ?_
      refine lv_icmp_ne (tgt := 26) hx hb dX0_againstTower_14 (by decide) (fun c_14b => ?_) (fun c_14b => ?_)
      · have hF := iff_ hF c_14b
        refine lv_iconst (v := 0) hx hb dX0_againstTower_26 (by decide) ?_
        refine lv_istore_n (lv' := [(3, .int (0 : Int32)), (0, .ref a_t), (1, .int p1), (2, .int p2)]) hx hb dX0_againstTower_27 rfl hl (by decide) rfl (fun ls hl => ?_)
        refine lv_iload_n hx hb dX0_againstTower_28 rfl (lv_at hl 0 rfl) ?_
        refine lv_if_eq (tgt := 41) hx hb dX0_againstTower_29 (by decide) (fun c_29bbbb => ?_) (fun c_29bbbb => ?_)
        · have hF := ift hF c_29bbbb
          refine lv_iconst (v := 0) hx hb dX0_againstTower_41 (by decide) ?_
          obtain ⟨e0_42, e1_42⟩ := inj2 hF
          rw [← e0_42, ← e1_42] at hQ0
          rw [hQ0]
          exact ret_i hx hb hr hlocks hAe hK hP hD hS [0] rfl rfl dX0_againstTower_42
        · have hF := iff_ hF c_29bbbb
          refine lv_aload_n hx hb dX0_againstTower_32 rfl (lv_at hl 1 rfl) ?_
          refine lv_iconst (v := 5) hx hb dX0_againstTower_33 (by decide) ?_
          refine lv_iload_n hx hb dX0_againstTower_34 rfl (lv_at hl 3 rfl) ?_
          obtain ⟨r_35bbbb, t_detail_35bbbb, hq_35bbbb, hF⟩ := bn2_i hF
          refine cm_Vi (As := [.int (5 : Int32), .int p2]) (rest := []) (wr := []) ⟨hx, hb, hml, hown, hts⟩ (c_X0_refusal l D y fl s.heap.size a_t a_t_ladder t_detail t_keptReason t_keptDetail t_keptIndex (5 : Int32) p2 r_35bbbb t_detail_35bbbb hq_35bbbb) (cwV 2 hts gX0_againstTower_X0_refusal rfl rfl rfl (by decide +kernel) ⟨Nat.le_of_ble_eq_true rfl, Nat.le_of_ble_eq_true rfl⟩) hK hP hD hS hA [0] [] rfl rfl rfl rfl (by decide) rfl rfl rfl hl.1 rfl (Nat.le_of_ble_eq_true rfl) dX0_againstTower_35 ⟨Nat.le_of_ble_eq_true rfl, Nat.le_of_ble_eq_true rfl⟩ (fun H locs hP hD hS => ?_)
          have hP : va_P D vwCl [(a_t, .inr (4, [.ref a_t_ladder, .int t_detail_35bbbb, .int t_keptReason, .int t_keptDetail, .int t_keptIndex]))] H := hP
          have hD : va_D A [(a_t, .inr (4, [.ref a_t_ladder, .int t_detail_35bbbb, .int t_keptReason, .int t_keptDetail, .int t_keptIndex]))] := hD
          refine lv_goto (tgt := 42) hx hb dX0_againstTower_38 (by decide) ?_
          obtain ⟨e0_42, e1_42⟩ := inj2 hF
          rw [← e0_42, ← e1_42] at hQ0
          rw [hQ0]
          exact ret_i hx hb hr hlocks hAe hK hP hD hS [0] rfl rfl dX0_againstTower_42
      · have hF := ift hF c_14b
        refine lv_iload_n hx hb dX0_againstTower_17 rfl (lv_at hl 2 rfl) ?_
        refine lv_iconst (v := 1) hx hb dX0_againstTower_18 (by decide) ?_
        refine lv_icmp_gt (tgt := 26) hx hb dX0_againstTower_19 (by decide) (fun c_19b => ?_) (fun c_19b => ?_)
        · have hF := ift hF c_19b
          refine lv_iconst (v := 0) hx hb dX0_againstTower_26 (by decide) ?_
          refine lv_istore_n (lv' := [(3, .int (0 : Int32)), (0, .ref a_t), (1, .int p1), (2, .int p2)]) hx hb dX0_againstTower_27 rfl hl (by decide) rfl (fun ls hl => ?_)
          refine lv_iload_n hx hb dX0_againstTower_28 rfl (lv_at hl 0 rfl) ?_
          refine lv_if_eq (tgt := 41) hx hb dX0_againstTower_29 (by decide) (fun c_29bbbbb => ?_) (fun c_29bbbbb => ?_)
          · have hF := ift hF c_29bbbbb
            refine lv_iconst (v := 0) hx hb dX0_againstTower_41 (by decide) ?_
            obtain ⟨e0_42, e1_42⟩ := inj2 hF
            rw [← e0_42, ← e1_42] at hQ0
            rw [hQ0]
            exact ret_i hx hb hr hlocks hAe hK hP hD hS [0] rfl rfl dX0_againstTower_42
          · have hF := iff_ hF c_29bbbbb
            refine lv_aload_n hx hb dX0_againstTower_32 rfl (lv_at hl 1 rfl) ?_
            refine lv_iconst (v := 5) hx hb dX0_againstTower_33 (by decide) ?_
            refine lv_iload_n hx hb dX0_againstTower_34 rfl (lv_at hl 3 rfl) ?_
            obtain ⟨r_35bbbbb, t_detail_35bbbbb, hq_35bbbbb, hF⟩ := bn2_i hF
            refine cm_Vi (As := [.int (5 : Int32), .int p2]) (rest := []) (wr := []) ⟨hx, hb, hml, hown, hts⟩ (c_X0_refusal l D y fl s.heap.size a_t a_t_ladder t_detail t_keptReason t_keptDetail t_keptIndex (5 : Int32) p2 r_35bbbbb t_detail_35bbbbb hq_35bbbbb) (cwV 2 hts gX0_againstTower_X0_refusal rfl rfl rfl (by decide +kernel) ⟨Nat.le_of_ble_eq_true rfl, Nat.le_of_ble_eq_true rfl⟩) hK hP hD hS hA [0] [] rfl rfl rfl rfl (by decide) rfl rfl rfl hl.1 rfl (Nat.le_of_ble_eq_true rfl) dX0_againstTower_35 ⟨Nat.le_of_ble_eq_true rfl, Nat.le_of_ble_eq_true rfl⟩ (fun H locs hP hD hS => ?_)
            have hP : va_P D vwCl [(a_t, .inr (4, [.ref a_t_ladder, .int t_detail_35bbbbb, .int t_keptReason, .int t_keptDetail, .int t_keptIndex]))] H := hP
            have hD : va_D A [(a_t, .inr (4, [.ref a_t_ladder, .int t_detail_35bbbbb, .int t_keptReason, .int t_keptDetail, .int t_keptIndex]))] := hD
            refine lv_goto (tgt := 42) hx hb dX0_againstTower_38 (by decide) ?_
            obtain ⟨e0_42, e1_42⟩ := inj2 hF
            rw [← e0_42, ← e1_42] at hQ0
            rw [hQ0]
            exact ret_i hx hb hr hlocks hAe hK hP hD hS [0] rfl rfl dX0_againstTower_42
        · have hF := iff_ hF c_19b
          refine lv_iconst (v := 1) hx hb dX0_againstTower_22 (by decide) ?_
          refine lv_goto (tgt := 27) hx hb dX0_againstTower_23 (by decide) ?_
          refine lv_istore_n (lv' := [(3, .int (1 : Int32)), (0, .ref a_t), (1, .int p1), (2, .int p2)]) hx hb dX0_againstTower_27 rfl hl (by decide) rfl (fun ls hl => ?_)
          refine lv_iload_n hx hb dX0_againstTower_28 rfl (lv_at hl 0 rfl) ?_
          refine lv_if_eq (tgt := 41) hx hb dX0_againstTower_29 (by decide) (fun c_29bbbbbb => ?_) (fun c_29bbbbbb => ?_)
          · have hF := ift hF c_29bbbbbb
            refine lv_iconst (v := 0) hx hb dX0_againstTower_41 (by decide) ?_
            obtain ⟨e0_42, e1_42⟩ := inj2 hF
            rw [← e0_42, ← e1_42] at hQ0
            rw [hQ0]
            exact ret_i hx hb hr hlocks hAe hK hP hD hS [0] rfl rfl dX0_againstTower_42
          · have hF := iff_ hF c_29bbbbbb
            refine lv_aload_n hx hb dX0_againstTower_32 rfl (lv_at hl 1 rfl) ?_
            refine lv_iconst (v := 5) hx hb dX0_againstTower_33 (by decide) ?_
            refine lv_iload_n hx hb dX0_againstTower_34 rfl (lv_at hl 3 rfl) ?_
            obtain ⟨r_35bbbbbb, t_detail_35bbbbbb, hq_35bbbbbb, hF⟩ := bn2_i hF
            refine cm_Vi (As := [.int (5 : Int32), .int p2]) (rest := []) (wr := []) ⟨hx, hb, hml, hown, hts⟩ (c_X0_refusal l D y fl s.heap.size a_t a_t_ladder t_detail t_keptReason t_keptDetail t_keptIndex (5 : Int32) p2 r_35bbbbbb t_detail_35bbbbbb hq_35bbbbbb) (cwV 2 hts gX0_againstTower_X0_refusal rfl rfl rfl (by decide +kernel) ⟨Nat.le_of_ble_eq_true rfl, Nat.le_of_ble_eq_true rfl⟩) hK hP hD hS hA [0] [] rfl rfl rfl rfl (by decide) rfl rfl rfl hl.1 rfl (Nat.le_of_ble_eq_true rfl) dX0_againstTower_35 ⟨Nat.le_of_ble_eq_true rfl, Nat.le_of_ble_eq_true rfl⟩ (fun H locs hP hD hS => ?_)
            have hP : va_P D vwCl [(a_t, .inr (4, [.ref a_t_ladder, .int t_detail_35bbbbbb, .int t_keptReason, .int t_keptDetail, .int t_keptIndex]))] H := hP
            have hD : va_D A [(a_t, .inr (4, [.ref a_t_ladder, .int t_detail_35bbbbbb, .int t_keptReason, .int t_keptDetail, .int t_keptIndex]))] := hD
            refine lv_goto (tgt := 42) hx hb dX0_againstTower_38 (by decide) ?_
            obtain ⟨e0_42, e1_42⟩ := inj2 hF
            rw [← e0_42, ← e1_42] at hQ0
            rw [hQ0]
            exact ret_i hx hb hr hlocks hAe hK hP hD hS [0] rfl rfl dX0_againstTower_42
def F_X0_againstLevel (fl : Nat) (t_detail : Int32) (t_ladder_hidden : Int32) (o1_sign : Int32) (o1_number : Int32) : Option (Int32 × Int32) := bn (F_X4_number fl o1_number) fun r_1 => bn (F_X0_outside fl r_1 (1 : Int32) (4 : Int32)) fun r_8 => if r_8 = 0 then (bn (F_X3_isHidden fl t_ladder_hidden r_1) fun r_21 => bn (F_X4_sign fl o1_sign) fun r_25 => if r_25 = (102 : Int32) then (if r_21 = (1 : Int32) then (if (1 : Int32) = 0 then (some ((0 : Int32), t_detail)) else (bn2 (F_X0_refusal fl t_detail (6 : Int32) r_1) fun r_55bbb t_detail_55bbb => some (r_55bbb, t_detail_55bbb))) else (if (0 : Int32) = 0 then (some ((0 : Int32), t_detail)) else (bn2 (F_X0_refusal fl t_detail (6 : Int32) r_1) fun r_55bb t_detail_55bb => some (r_55bb, t_detail_55bb)))) else (if r_21 = (0 : Int32) then (if (1 : Int32) = 0 then (some ((0 : Int32), t_detail)) else (bn2 (F_X0_refusal fl t_detail (6 : Int32) r_1) fun r_55b t_detail_55b => some (r_55b, t_detail_55b))) else (if (0 : Int32) = 0 then (some ((0 : Int32), t_detail)) else (bn2 (F_X0_refusal fl t_detail (6 : Int32) r_1) fun r_55 t_detail_55 => some (r_55, t_detail_55))))) else (some ((1 : Int32), t_detail))
theorem iX0_againstLevel_X0 : ∀ w ∈ u_ws RX0 TX0 5, w ∈ wsX0_againstLevel := fun w h => List.mem_cons_of_mem _ (List.mem_append_left _ (List.mem_append_left _ (List.mem_append_right _ h)))
set_option maxHeartbeats 4000000 in
set_option maxRecDepth 100000 in
theorem c_X0_againstLevel (l : Launch) (D : va_G) (y : Nat → ClassId) (fl : Nat) (sz : Nat) (a_t : Nat) (a_t_ladder : Nat) (a_t_ladder_keys : Nat) (a_t_ladder_weights : Nat) (a_t_ladder_towers : Nat) (a_t_ladder_coin : Nat) (a_o1 : Nat) (t_detail : Int32) (t_keptReason : Int32) (t_keptDetail : Int32) (t_keptIndex : Int32) (t_ladder_size : Int32) (t_ladder_hidden : Int32) (o1_sign : Int32) (o1_number : Int32) (o1_weight : Int32) (o1_rungs : Int32) (r : Int32) (t_detail' : Int32) (hF : F_X0_againstLevel fl t_detail t_ladder_hidden o1_sign o1_number = some (r, t_detail')) : Met l yX0_againstLevel wsX0_againstLevel (rmq 1 22) (wrP D y [(a_t, .inr (4, [.ref a_t_ladder, .int t_detail, .int t_keptReason, .int t_keptDetail, .int t_keptIndex])), (a_t_ladder, .inr (7, [.ref a_t_ladder_keys, .ref a_t_ladder_weights, .ref a_t_ladder_towers, .ref a_t_ladder_coin, .int t_ladder_size, .int t_ladder_hidden])), (a_o1, .inr (8, [.int o1_sign, .int o1_number, .int o1_weight, .int o1_rungs]))] sz [.ref a_t, .ref a_o1]) (wQi D y r [(a_t, .inr (4, [.ref a_t_ladder, .int t_detail', .int t_keptReason, .int t_keptDetail, .int t_keptIndex])), (a_t_ladder, .inr (7, [.ref a_t_ladder_keys, .ref a_t_ladder_weights, .ref a_t_ladder_towers, .ref a_t_ladder_coin, .int t_ladder_size, .int t_ladder_hidden])), (a_o1, .inr (8, [.int o1_sign, .int o1_number, .int o1_weight, .int o1_rungs]))] [(a_t, .inr (4, [.ref a_t_ladder, .int t_detail, .int t_keptReason, .int t_keptDetail, .int t_keptIndex])), (a_t_ladder, .inr (7, [.ref a_t_ladder_keys, .ref a_t_ladder_weights, .ref a_t_ladder_towers, .ref a_t_ladder_coin, .int t_ladder_size, .int t_ladder_hidden])), (a_o1, .inr (8, [.int o1_sign, .int o1_number, .int o1_weight, .int o1_rungs]))] sz) 0 0 (va_A [(a_t, .inr (4, [.ref a_t_ladder, .int t_detail, .int t_keptReason, .int t_keptDetail, .int t_keptIndex])), (a_t_ladder, .inr (7, [.ref a_t_ladder_keys, .ref a_t_ladder_weights, .ref a_t_ladder_towers, .ref a_t_ladder_coin, .int t_ladder_size, .int t_ladder_hidden])), (a_o1, .inr (8, [.int o1_sign, .int o1_number, .int o1_weight, .int o1_rungs]))] sz) := by
  refine Met.ofW (cc := cX0_againstLevel) (maxL := 4) (ret := (some .int)) (by decide) rfl ?_
  intro p e s m args below meth c s₁ B hml hv
  obtain ⟨hav, hsz, hP, hK, hD0⟩ := hv
  have hx := B.exec
  have hb := B.bytes
  have hr := B.returns
  have hts := atoms_spec (ws := wsX0_againstLevel) B.pre
  have hown : s.vm.findClass RX0 = some m.cls := findClass_of_methodNamed B.named
  have hlocks := B.notSynchronized
  subst hsz
  have hD := hD0.self (sz := s.heap.size)
  obtain ⟨A, hAe⟩ : ∃ A : Nat → Prop, va_A [(a_t, .inr (4, [.ref a_t_ladder, .int t_detail, .int t_keptReason, .int t_keptDetail, .int t_keptIndex])), (a_t_ladder, .inr (7, [.ref a_t_ladder_keys, .ref a_t_ladder_weights, .ref a_t_ladder_towers, .ref a_t_ladder_coin, .int t_ladder_size, .int t_ladder_hidden])), (a_o1, .inr (8, [.int o1_sign, .int o1_number, .int o1_weight, .int o1_rungs]))] s.heap.size = A := ⟨_, rfl⟩
  rw [hAe] at hD
  have hA : ∀ q, s.heap.size ≤ q → A q := fun q h => by rw [← hAe]; exact Or.inr h
  have hS : va_S A s.heap s.heap [] := va_S.rf
  refine W_q (R1 := (rmq 1 22)) rfl (fun Q0 hQ0 => ?_)
  unfold F_X0_againstLevel at hF
  refine W_entry hav (Nat.le_of_ble_eq_true rfl) (fun ls hl => ?_)
  have hl : lv_has ls 4 [(0, .ref a_t), (1, .ref a_o1)] := hl
  refine lv_aload_n hx hb dX0_againstLevel_0 rfl (lv_at hl 1 rfl) ?_
  obtain ⟨r_1, hq_1, hF⟩ := bn_i hF
  refine cr_V (As := []) (rest := []) ⟨hx, hb, hml, hown, hts⟩ (c_X4_number l D y fl a_o1 o1_sign o1_number o1_weight o1_rungs r_1 hq_1) (cwV 0 hts gX0_againstLevel_X4_number rfl rfl rfl (by decide +kernel) ⟨Nat.le_of_ble_eq_true rfl, Nat.le_of_ble_eq_true rfl⟩) hK hP [2] rfl rfl rfl rfl hl.1 rfl (Nat.le_of_ble_eq_true rfl) dX0_againstLevel_1 ⟨Nat.le_of_ble_eq_true rfl, Nat.le_of_ble_eq_true rfl⟩ ?_
  refine lv_istore_n (lv' := [(2, .int r_1), (0, .ref a_t), (1, .ref a_o1)]) hx hb dX0_againstLevel_4 rfl hl (by decide) rfl (fun ls hl => ?_)
  refine lv_iload_n hx hb dX0_againstLevel_5 rfl (lv_at hl 0 rfl) ?_
  refine lv_iconst (v := 1) hx hb dX0_againstLevel_6 (by decide) ?_
  refine lv_iconst (v := 4) hx hb dX0_againstLevel_7 (by decide) ?_
  obtain ⟨r_8, hq_8, hF⟩ := bn_i hF
  refine cr_S (As := [.int r_1, .int (1 : Int32), .int (4 : Int32)]) (rest := []) ⟨hx, hb, hml, hown, hts⟩ (c_X0_outside l D y fl r_1 (1 : Int32) (4 : Int32) r_8 hq_8) (va_cwS 3 hts gX0_againstLevel_X0_outside rfl rfl rfl (by decide +kernel) ⟨Nat.le_of_ble_eq_true rfl, Nat.le_of_ble_eq_true rfl⟩) hK hP [] rfl rfl hl.1 rfl (Nat.le_of_ble_eq_true rfl) dX0_againstLevel_8 ⟨Nat.le_of_ble_eq_true rfl, Nat.le_of_ble_eq_true rfl⟩ ?_
  refine lv_if_eq (tgt := 16) hx hb dX0_againstLevel_11 (by decide) (fun c_11 => ?_) (fun c_11 => ?_)
  · have hF := ift hF c_11
    refine lv_aload_n hx hb dX0_againstLevel_16 rfl (lv_at hl 1 rfl) ?_
    refine va_get (D := D) (ci := 4) (v := .ref a_t_ladder) (C := RX0) (T := TX0) (N := 5) hx hb hts iX0_againstLevel_X0 hown hK hP 0 rfl rfl 0 (by decide) (hts (.fieldLink RX0 24 "SkipArchive$Clerk" "ladder" "LSkipArchive$Ladder;") (List.mem_of_getElem? (i := 1) rfl)) (fun _ h9 => h9) rfl dX0_againstLevel_17 ?_
    refine lv_iload_n hx hb dX0_againstLevel_20 rfl (lv_at hl 0 rfl) ?_
    obtain ⟨r_21, hq_21, hF⟩ := bn_i hF
    refine cr_V (As := [.int r_1]) (rest := []) ⟨hx, hb, hml, hown, hts⟩ (c_X3_isHidden l D y fl a_t_ladder a_t_ladder_keys a_t_ladder_weights a_t_ladder_towers a_t_ladder_coin t_ladder_size t_ladder_hidden r_1 r_21 hq_21) (cwV 1 hts gX0_againstLevel_X3_isHidden rfl rfl rfl (by decide +kernel) ⟨Nat.le_of_ble_eq_true rfl, Nat.le_of_ble_eq_true rfl⟩) hK hP [1] rfl rfl rfl rfl hl.1 rfl (Nat.le_of_ble_eq_true rfl) dX0_againstLevel_21 ⟨Nat.le_of_ble_eq_true rfl, Nat.le_of_ble_eq_true rfl⟩ ?_
    refine lv_aload_n hx hb dX0_againstLevel_24 rfl (lv_at hl 2 rfl) ?_
    obtain ⟨r_25, hq_25, hF⟩ := bn_i hF
    refine cr_V (As := []) (rest := [.int r_21]) ⟨hx, hb, hml, hown, hts⟩ (c_X4_sign l D y fl a_o1 o1_sign o1_number o1_weight o1_rungs r_25 hq_25) (cwV 0 hts gX0_againstLevel_X4_sign rfl rfl rfl (by decide +kernel) ⟨Nat.le_of_ble_eq_true rfl, Nat.le_of_ble_eq_true rfl⟩) hK hP [2] rfl rfl rfl rfl hl.1 rfl (Nat.le_of_ble_eq_true rfl) dX0_againstLevel_25 ⟨Nat.le_of_ble_eq_true rfl, Nat.le_of_ble_eq_true rfl⟩ ?_
    refine lv_bipush (v := 102) hx hb dX0_againstLevel_28 (by decide) ?_
    refine lv_icmp_ne (tgt := 37) hx hb dX0_againstLevel_30 (by decide) (fun c_30 => ?_) (fun c_30 => ?_)
    · have hF := iff_ hF c_30
      refine lv_iconst (v := 0) hx hb dX0_againstLevel_37 (by decide) ?_
      refine lv_icmp_ne (tgt := 45) hx hb dX0_againstLevel_38 (by decide) (fun c_38 => ?_) (fun c_38 => ?_)
      · have hF := iff_ hF c_38
        refine lv_iconst (v := 0) hx hb dX0_againstLevel_45 (by decide) ?_
        refine lv_istore_n (lv' := [(3, .int (0 : Int32)), (2, .int r_1), (0, .ref a_t), (1, .ref a_o1)]) hx hb dX0_againstLevel_46 rfl hl (by decide) rfl (fun ls hl => ?_)
        refine lv_iload_n hx hb dX0_againstLevel_47 rfl (lv_at hl 0 rfl) ?_
        refine lv_if_eq (tgt := 61) hx hb dX0_againstLevel_48 (by decide) (fun c_48 => ?_) (fun c_48 => ?_)
        · have hF := ift hF c_48
          refine lv_iconst (v := 0) hx hb dX0_againstLevel_61 (by decide) ?_
          obtain ⟨e0_62, e1_62⟩ := inj2 hF
          rw [← e0_62, ← e1_62] at hQ0
          rw [hQ0]
          exact ret_i hx hb hr hlocks hAe hK hP hD hS [0, 1, 2] rfl rfl dX0_againstLevel_62
        · have hF := iff_ hF c_48
          refine lv_aload_n hx hb dX0_againstLevel_51 rfl (lv_at hl 2 rfl) ?_
          refine lv_bipush (v := 6) hx hb dX0_againstLevel_52 (by decide) ?_
          refine lv_iload_n hx hb dX0_againstLevel_54 rfl (lv_at hl 1 rfl) ?_
          obtain ⟨r_55, t_detail_55, hq_55, hF⟩ := bn2_i hF
          refine cm_Vi (As := [.int (6 : Int32), .int r_1]) (rest := []) (wr := [(a_t_ladder, .inr (7, [.ref a_t_ladder_keys, .ref a_t_ladder_weights, .ref a_t_ladder_towers, .ref a_t_ladder_coin, .int t_ladder_size, .int t_ladder_hidden])), (a_o1, .inr (8, [.int o1_sign, .int o1_number, .int o1_weight, .int o1_rungs]))]) ⟨hx, hb, hml, hown, hts⟩ (c_X0_refusal l D y fl s.heap.size a_t a_t_ladder t_detail t_keptReason t_keptDetail t_keptIndex (6 : Int32) r_1 r_55 t_detail_55 hq_55) (cwV 2 hts gX0_againstLevel_X0_refusal rfl rfl rfl (by decide +kernel) ⟨Nat.le_of_ble_eq_true rfl, Nat.le_of_ble_eq_true rfl⟩) hK hP hD hS hA [0] [1, 2] rfl rfl rfl rfl (by decide) rfl rfl rfl hl.1 rfl (Nat.le_of_ble_eq_true rfl) dX0_againstLevel_55 ⟨Nat.le_of_ble_eq_true rfl, Nat.le_of_ble_eq_true rfl⟩ (fun H locs hP hD hS => ?_)
          have hP : va_P D vwCl [(a_t_ladder, .inr (7, [.ref a_t_ladder_keys, .ref a_t_ladder_weights, .ref a_t_ladder_towers, .ref a_t_ladder_coin, .int t_ladder_size, .int t_ladder_hidden])), (a_o1, .inr (8, [.int o1_sign, .int o1_number, .int o1_weight, .int o1_rungs])), (a_t, .inr (4, [.ref a_t_ladder, .int t_detail_55, .int t_keptReason, .int t_keptDetail, .int t_keptIndex]))] H := hP
          have hD : va_D A [(a_t_ladder, .inr (7, [.ref a_t_ladder_keys, .ref a_t_ladder_weights, .ref a_t_ladder_towers, .ref a_t_ladder_coin, .int t_ladder_size, .int t_ladder_hidden])), (a_o1, .inr (8, [.int o1_sign, .int o1_number, .int o1_weight, .int o1_rungs])), (a_t, .inr (4, [.ref a_t_ladder, .int t_detail_55, .int t_keptReason, .int t_keptDetail, .int t_keptIndex]))] := hD
          refine lv_goto (tgt := 62) hx hb dX0_againstLevel_58 (by decide) ?_
          obtain ⟨e0_62, e1_62⟩ := inj2 hF
          rw [← e0_62, ← e1_62] at hQ0
          rw [hQ0]
          exact ret_i hx hb hr hlocks hAe hK hP hD hS [2, 0, 1] rfl rfl dX0_againstLevel_62
      · have hF := ift hF c_38
        refine lv_iconst (v := 1) hx hb dX0_againstLevel_41 (by decide) ?_
        refine lv_goto (tgt := 46) hx hb dX0_againstLevel_42 (by decide) ?_
        refine lv_istore_n (lv' := [(3, .int (1 : Int32)), (2, .int r_1), (0, .ref a_t), (1, .ref a_o1)]) hx hb dX0_againstLevel_46 rfl hl (by decide) rfl (fun ls hl => ?_)
        refine lv_iload_n hx hb dX0_againstLevel_47 rfl (lv_at hl 0 rfl) ?_
        refine lv_if_eq (tgt := 61) hx hb dX0_againstLevel_48 (by decide) (fun c_48b => ?_) (fun c_48b => ?_)
        · have hF := ift hF c_48b
          refine lv_iconst (v := 0) hx hb dX0_againstLevel_61 (by decide) ?_
          obtain ⟨e0_62, e1_62⟩ := inj2 hF
          rw [← e0_62, ← e1_62] at hQ0
          rw [hQ0]
          exact ret_i hx hb hr hlocks hAe hK hP hD hS [0, 1, 2] rfl rfl dX0_againstLevel_62
        · have hF := iff_ hF c_48b
          refine lv_aload_n hx hb dX0_againstLevel_51 rfl (lv_at hl 2 rfl) ?_
          refine lv_bipush (v := 6) hx hb dX0_againstLevel_52 (by decide) ?_
          refine lv_iload_n hx hb dX0_againstLevel_54 rfl (lv_at hl 1 rfl) ?_
          obtain ⟨r_55b, t_detail_55b, hq_55b, hF⟩ := bn2_i hF
          refine cm_Vi (As := [.int (6 : Int32), .int r_1]) (rest := []) (wr := [(a_t_ladder, .inr (7, [.ref a_t_ladder_keys, .ref a_t_ladder_weights, .ref a_t_ladder_towers, .ref a_t_ladder_coin, .int t_ladder_size, .int t_ladder_hidden])), (a_o1, .inr (8, [.int o1_sign, .int o1_number, .int o1_weight, .int o1_rungs]))]) ⟨hx, hb, hml, hown, hts⟩ (c_X0_refusal l D y fl s.heap.size a_t a_t_ladder t_detail t_keptReason t_keptDetail t_keptIndex (6 : Int32) r_1 r_55b t_detail_55b hq_55b) (cwV 2 hts gX0_againstLevel_X0_refusal rfl rfl rfl (by decide +kernel) ⟨Nat.le_of_ble_eq_true rfl, Nat.le_of_ble_eq_true rfl⟩) hK hP hD hS hA [0] [1, 2] rfl rfl rfl rfl (by decide) rfl rfl rfl hl.1 rfl (Nat.le_of_ble_eq_true rfl) dX0_againstLevel_55 ⟨Nat.le_of_ble_eq_true rfl, Nat.le_of_ble_eq_true rfl⟩ (fun H locs hP hD hS => ?_)
          have hP : va_P D vwCl [(a_t_ladder, .inr (7, [.ref a_t_ladder_keys, .ref a_t_ladder_weights, .ref a_t_ladder_towers, .ref a_t_ladder_coin, .int t_ladder_size, .int t_ladder_hidden])), (a_o1, .inr (8, [.int o1_sign, .int o1_number, .int o1_weight, .int o1_rungs])), (a_t, .inr (4, [.ref a_t_ladder, .int t_detail_55b, .int t_keptReason, .int t_keptDetail, .int t_keptIndex]))] H := hP
          have hD : va_D A [(a_t_ladder, .inr (7, [.ref a_t_ladder_keys, .ref a_t_ladder_weights, .ref a_t_ladder_towers, .ref a_t_ladder_coin, .int t_ladder_size, .int t_ladder_hidden])), (a_o1, .inr (8, [.int o1_sign, .int o1_number, .int o1_weight, .int o1_rungs])), (a_t, .inr (4, [.ref a_t_ladder, .int t_detail_55b, .int t_keptReason, .int t_keptDetail, .int t_keptIndex]))] := hD
          refine lv_goto (tgt := 62) hx hb dX0_againstLevel_58 (by decide) ?_
          obtain ⟨e0_62, e1_62⟩ := inj2 hF
          rw [← e0_62, ← e1_62] at hQ0
          rw [hQ0]
          exact ret_i hx hb hr hlocks hAe hK hP hD hS [2, 0, 1] rfl rfl dX0_againstLevel_62
    · have hF := ift hF c_30
      refine lv_iconst (v := 1) hx hb dX0_againstLevel_33 (by decide) ?_
      refine lv_goto (tgt := 38) hx hb dX0_againstLevel_34 (by decide) ?_
      refine lv_icmp_ne (tgt := 45) hx hb dX0_againstLevel_38 (by decide) (fun c_38b => ?_) (fun c_38b => ?_)
      · have hF := iff_ hF c_38b
        refine lv_iconst (v := 0) hx hb dX0_againstLevel_45 (by decide) ?_
        refine lv_istore_n (lv' := [(3, .int (0 : Int32)), (2, .int r_1), (0, .ref a_t), (1, .ref a_o1)]) hx hb dX0_againstLevel_46 rfl hl (by decide) rfl (fun ls hl => ?_)
        refine lv_iload_n hx hb dX0_againstLevel_47 rfl (lv_at hl 0 rfl) ?_
        refine lv_if_eq (tgt := 61) hx hb dX0_againstLevel_48 (by decide) (fun c_48bb => ?_) (fun c_48bb => ?_)
        · have hF := ift hF c_48bb
          refine lv_iconst (v := 0) hx hb dX0_againstLevel_61 (by decide) ?_
          obtain ⟨e0_62, e1_62⟩ := inj2 hF
          rw [← e0_62, ← e1_62] at hQ0
          rw [hQ0]
          exact ret_i hx hb hr hlocks hAe hK hP hD hS [0, 1, 2] rfl rfl dX0_againstLevel_62
        · have hF := iff_ hF c_48bb
          refine lv_aload_n hx hb dX0_againstLevel_51 rfl (lv_at hl 2 rfl) ?_
          refine lv_bipush (v := 6) hx hb dX0_againstLevel_52 (by decide) ?_
          refine lv_iload_n hx hb dX0_againstLevel_54 rfl (lv_at hl 1 rfl) ?_
          obtain ⟨r_55bb, t_detail_55bb, hq_55bb, hF⟩ := bn2_i hF
          refine cm_Vi (As := [.int (6 : Int32), .int r_1]) (rest := []) (wr := [(a_t_ladder, .inr (7, [.ref a_t_ladder_keys, .ref a_t_ladder_weights, .ref a_t_ladder_towers, .ref a_t_ladder_coin, .int t_ladder_size, .int t_ladder_hidden])), (a_o1, .inr (8, [.int o1_sign, .int o1_number, .int o1_weight, .int o1_rungs]))]) ⟨hx, hb, hml, hown, hts⟩ (c_X0_refusal l D y fl s.heap.size a_t a_t_ladder t_detail t_keptReason t_keptDetail t_keptIndex (6 : Int32) r_1 r_55bb t_detail_55bb hq_55bb) (cwV 2 hts gX0_againstLevel_X0_refusal rfl rfl rfl (by decide +kernel) ⟨Nat.le_of_ble_eq_true rfl, Nat.le_of_ble_eq_true rfl⟩) hK hP hD hS hA [0] [1, 2] rfl rfl rfl rfl (by decide) rfl rfl rfl hl.1 rfl (Nat.le_of_ble_eq_true rfl) dX0_againstLevel_55 ⟨Nat.le_of_ble_eq_true rfl, Nat.le_of_ble_eq_true rfl⟩ (fun H locs hP hD hS => ?_)
          have hP : va_P D vwCl [(a_t_ladder, .inr (7, [.ref a_t_ladder_keys, .ref a_t_ladder_weights, .ref a_t_ladder_towers, .ref a_t_ladder_coin, .int t_ladder_size, .int t_ladder_hidden])), (a_o1, .inr (8, [.int o1_sign, .int o1_number, .int o1_weight, .int o1_rungs])), (a_t, .inr (4, [.ref a_t_ladder, .int t_detail_55bb, .int t_keptReason, .int t_keptDetail, .int t_keptIndex]))] H := hP
          have hD : va_D A [(a_t_ladder, .inr (7, [.ref a_t_ladder_keys, .ref a_t_ladder_weights, .ref a_t_ladder_towers, .ref a_t_ladder_coin, .int t_ladder_size, .int t_ladder_hidden])), (a_o1, .inr (8, [.int o1_sign, .int o1_number, .int o1_weight, .int o1_rungs])), (a_t, .inr (4, [.ref a_t_ladder, .int t_detail_55bb, .int t_keptReason, .int t_keptDetail, .int t_keptIndex]))] := hD
          refine lv_goto (tgt := 62) hx hb dX0_againstLevel_58 (by decide) ?_
          obtain ⟨e0_62, e1_62⟩ := inj2 hF
          rw [← e0_62, ← e1_62] at hQ0
          rw [hQ0]
          exact ret_i hx hb hr hlocks hAe hK hP hD hS [2, 0, 1] rfl rfl dX0_againstLevel_62
      · have hF := ift hF c_38b
        refine lv_iconst (v := 1) hx hb dX0_againstLevel_41 (by decide) ?_
        refine lv_goto (tgt := 46) hx hb dX0_againstLevel_42 (by decide) ?_
        refine lv_istore_n (lv' := [(3, .int (1 : Int32)), (2, .int r_1), (0, .ref a_t), (1, .ref a_o1)]) hx hb dX0_againstLevel_46 rfl hl (by decide) rfl (fun ls hl => ?_)
        refine lv_iload_n hx hb dX0_againstLevel_47 rfl (lv_at hl 0 rfl) ?_
        refine lv_if_eq (tgt := 61) hx hb dX0_againstLevel_48 (by decide) (fun c_48bbb => ?_) (fun c_48bbb => ?_)
        · have hF := ift hF c_48bbb
          refine lv_iconst (v := 0) hx hb dX0_againstLevel_61 (by decide) ?_
          obtain ⟨e0_62, e1_62⟩ := inj2 hF
          rw [← e0_62, ← e1_62] at hQ0
          rw [hQ0]
          exact ret_i hx hb hr hlocks hAe hK hP hD hS [0, 1, 2] rfl rfl dX0_againstLevel_62
        · have hF := iff_ hF c_48bbb
          refine lv_aload_n hx hb dX0_againstLevel_51 rfl (lv_at hl 2 rfl) ?_
          refine lv_bipush (v := 6) hx hb dX0_againstLevel_52 (by decide) ?_
          refine lv_iload_n hx hb dX0_againstLevel_54 rfl (lv_at hl 1 rfl) ?_
          obtain ⟨r_55bbb, t_detail_55bbb, hq_55bbb, hF⟩ := bn2_i hF
          refine cm_Vi (As := [.int (6 : Int32), .int r_1]) (rest := []) (wr := [(a_t_ladder, .inr (7, [.ref a_t_ladder_keys, .ref a_t_ladder_weights, .ref a_t_ladder_towers, .ref a_t_ladder_coin, .int t_ladder_size, .int t_ladder_hidden])), (a_o1, .inr (8, [.int o1_sign, .int o1_number, .int o1_weight, .int o1_rungs]))]) ⟨hx, hb, hml, hown, hts⟩ (c_X0_refusal l D y fl s.heap.size a_t a_t_ladder t_detail t_keptReason t_keptDetail t_keptIndex (6 : Int32) r_1 r_55bbb t_detail_55bbb hq_55bbb) (cwV 2 hts gX0_againstLevel_X0_refusal rfl rfl rfl (by decide +kernel) ⟨Nat.le_of_ble_eq_true rfl, Nat.le_of_ble_eq_true rfl⟩) hK hP hD hS hA [0] [1, 2] rfl rfl rfl rfl (by decide) rfl rfl rfl hl.1 rfl (Nat.le_of_ble_eq_true rfl) dX0_againstLevel_55 ⟨Nat.le_of_ble_eq_true rfl, Nat.le_of_ble_eq_true rfl⟩ (fun H locs hP hD hS => ?_)
          have hP : va_P D vwCl [(a_t_ladder, .inr (7, [.ref a_t_ladder_keys, .ref a_t_ladder_weights, .ref a_t_ladder_towers, .ref a_t_ladder_coin, .int t_ladder_size, .int t_ladder_hidden])), (a_o1, .inr (8, [.int o1_sign, .int o1_number, .int o1_weight, .int o1_rungs])), (a_t, .inr (4, [.ref a_t_ladder, .int t_detail_55bbb, .int t_keptReason, .int t_keptDetail, .int t_keptIndex]))] H := hP
          have hD : va_D A [(a_t_ladder, .inr (7, [.ref a_t_ladder_keys, .ref a_t_ladder_weights, .ref a_t_ladder_towers, .ref a_t_ladder_coin, .int t_ladder_size, .int t_ladder_hidden])), (a_o1, .inr (8, [.int o1_sign, .int o1_number, .int o1_weight, .int o1_rungs])), (a_t, .inr (4, [.ref a_t_ladder, .int t_detail_55bbb, .int t_keptReason, .int t_keptDetail, .int t_keptIndex]))] := hD
          refine lv_goto (tgt := 62) hx hb dX0_againstLevel_58 (by decide) ?_
          obtain ⟨e0_62, e1_62⟩ := inj2 hF
          rw [← e0_62, ← e1_62] at hQ0
          rw [hQ0]
          exact ret_i hx hb hr hlocks hAe hK hP hD hS [2, 0, 1] rfl rfl dX0_againstLevel_62
  · have hF := iff_ hF c_11
    refine lv_iconst (v := 1) hx hb dX0_againstLevel_14 (by decide) ?_
    obtain ⟨e0_15, e1_15⟩ := inj2 hF
    rw [← e0_15, ← e1_15] at hQ0
    rw [hQ0]
    exact ret_i hx hb hr hlocks hAe hK hP hD hS [0, 1, 2] rfl rfl dX0_againstLevel_15
def F_X0_againstFiling (fl : Nat) (t_detail : Int32) (t_ladder_size : Int32) (t_ladder_keys : Nat → Int32) (o1_number : Int32) (o1_weight : Int32) (o1_rungs : Int32) : Option (Int32 × Int32) := bn (F_X4_number fl o1_number) fun r_1 => bn (F_X0_outside fl r_1 (0 : Int32) (999 : Int32)) fun r_8 => if r_8 = 0 then (bn (F_X4_weight fl o1_weight) fun r_15 => bn (F_X0_outside fl r_15 (0 : Int32) (99 : Int32)) fun r_21 => if r_21 = 0 then (bn (F_X4_rungs fl o1_rungs) fun r_28 => bn (F_X0_outside fl r_28 (1 : Int32) (5 : Int32)) fun r_33 => if r_33 = 0 then (bn (F_X4_number fl o1_number) fun r_46 => bn (F_X3_placeWith fl t_ladder_size t_ladder_keys r_46) fun r_49 => if r_49 = (-1 : Int32) then (bn (F_X3_isFull fl t_ladder_size) fun r_69 => if r_69 = 0 then (some ((0 : Int32), t_detail)) else (bn2 (F_X0_refusal fl t_detail (2 : Int32) (24 : Int32)) fun r_79 t_detail_79 => some (r_79, t_detail_79))) else (bn2 (F_X0_refusal fl t_detail (4 : Int32) r_49) fun r_61 t_detail_61 => some (r_61, t_detail_61))) else (some ((1 : Int32), t_detail))) else (some ((1 : Int32), t_detail))) else (some ((1 : Int32), t_detail))
theorem iX0_againstFiling_X0 : ∀ w ∈ u_ws RX0 TX0 5, w ∈ wsX0_againstFiling := fun w h => List.mem_cons_of_mem _ (List.mem_append_left _ (List.mem_append_left _ (List.mem_append_left _ (List.mem_append_right _ h))))
set_option maxHeartbeats 4000000 in
set_option maxRecDepth 100000 in
theorem c_X0_againstFiling (l : Launch) (D : va_G) (y : Nat → ClassId) (fl : Nat) (sz : Nat) (a_t : Nat) (a_t_ladder : Nat) (a_t_ladder_keys : Nat) (a_t_ladder_weights : Nat) (a_t_ladder_towers : Nat) (a_t_ladder_coin : Nat) (a_o1 : Nat) (t_detail : Int32) (t_keptReason : Int32) (t_keptDetail : Int32) (t_keptIndex : Int32) (t_ladder_size : Int32) (t_ladder_hidden : Int32) (t_ladder_keys : Nat → Int32) (o1_sign : Int32) (o1_number : Int32) (o1_weight : Int32) (o1_rungs : Int32) (r : Int32) (t_detail' : Int32) (hF : F_X0_againstFiling fl t_detail t_ladder_size t_ladder_keys o1_number o1_weight o1_rungs = some (r, t_detail')) : Met l yX0_againstFiling wsX0_againstFiling (rmq 2 44) (wrP D y [(a_t, .inr (4, [.ref a_t_ladder, .int t_detail, .int t_keptReason, .int t_keptDetail, .int t_keptIndex])), (a_t_ladder, .inr (7, [.ref a_t_ladder_keys, .ref a_t_ladder_weights, .ref a_t_ladder_towers, .ref a_t_ladder_coin, .int t_ladder_size, .int t_ladder_hidden])), (a_t_ladder_keys, .inl (y 0, 24, .inl t_ladder_keys)), (a_o1, .inr (8, [.int o1_sign, .int o1_number, .int o1_weight, .int o1_rungs]))] sz [.ref a_t, .ref a_o1]) (wQi D y r [(a_t, .inr (4, [.ref a_t_ladder, .int t_detail', .int t_keptReason, .int t_keptDetail, .int t_keptIndex])), (a_t_ladder, .inr (7, [.ref a_t_ladder_keys, .ref a_t_ladder_weights, .ref a_t_ladder_towers, .ref a_t_ladder_coin, .int t_ladder_size, .int t_ladder_hidden])), (a_t_ladder_keys, .inl (y 0, 24, .inl t_ladder_keys)), (a_o1, .inr (8, [.int o1_sign, .int o1_number, .int o1_weight, .int o1_rungs]))] [(a_t, .inr (4, [.ref a_t_ladder, .int t_detail, .int t_keptReason, .int t_keptDetail, .int t_keptIndex])), (a_t_ladder, .inr (7, [.ref a_t_ladder_keys, .ref a_t_ladder_weights, .ref a_t_ladder_towers, .ref a_t_ladder_coin, .int t_ladder_size, .int t_ladder_hidden])), (a_t_ladder_keys, .inl (y 0, 24, .inl t_ladder_keys)), (a_o1, .inr (8, [.int o1_sign, .int o1_number, .int o1_weight, .int o1_rungs]))] sz) 0 0 (va_A [(a_t, .inr (4, [.ref a_t_ladder, .int t_detail, .int t_keptReason, .int t_keptDetail, .int t_keptIndex])), (a_t_ladder, .inr (7, [.ref a_t_ladder_keys, .ref a_t_ladder_weights, .ref a_t_ladder_towers, .ref a_t_ladder_coin, .int t_ladder_size, .int t_ladder_hidden])), (a_t_ladder_keys, .inl (y 0, 24, .inl t_ladder_keys)), (a_o1, .inr (8, [.int o1_sign, .int o1_number, .int o1_weight, .int o1_rungs]))] sz) := by
  refine Met.ofW (cc := cX0_againstFiling) (maxL := 3) (ret := (some .int)) (by decide) rfl ?_
  intro p e s m args below meth c s₁ B hml hv
  obtain ⟨hav, hsz, hP, hK, hD0⟩ := hv
  have hx := B.exec
  have hb := B.bytes
  have hr := B.returns
  have hts := atoms_spec (ws := wsX0_againstFiling) B.pre
  have hown : s.vm.findClass RX0 = some m.cls := findClass_of_methodNamed B.named
  have hlocks := B.notSynchronized
  subst hsz
  have hD := hD0.self (sz := s.heap.size)
  obtain ⟨A, hAe⟩ : ∃ A : Nat → Prop, va_A [(a_t, .inr (4, [.ref a_t_ladder, .int t_detail, .int t_keptReason, .int t_keptDetail, .int t_keptIndex])), (a_t_ladder, .inr (7, [.ref a_t_ladder_keys, .ref a_t_ladder_weights, .ref a_t_ladder_towers, .ref a_t_ladder_coin, .int t_ladder_size, .int t_ladder_hidden])), (a_t_ladder_keys, .inl (y 0, 24, .inl t_ladder_keys)), (a_o1, .inr (8, [.int o1_sign, .int o1_number, .int o1_weight, .int o1_rungs]))] s.heap.size = A := ⟨_, rfl⟩
  rw [hAe] at hD
  have hA : ∀ q, s.heap.size ≤ q → A q := fun q h => by rw [← hAe]; exact Or.inr h
  have hS : va_S A s.heap s.heap [] := va_S.rf
  refine W_q (R1 := (rmq 2 44)) rfl (fun Q0 hQ0 => ?_)
  unfold F_X0_againstFiling at hF
  refine W_entry hav (Nat.le_of_ble_eq_true rfl) (fun ls hl => ?_)
  have hl : lv_has ls 3 [(0, .ref a_t), (1, .ref a_o1)] := hl
  refine lv_aload_n hx hb dX0_againstFiling_0 rfl (lv_at hl 1 rfl) ?_
  obtain ⟨r_1, hq_1, hF⟩ := bn_i hF
  refine cr_V (As := []) (rest := []) ⟨hx, hb, hml, hown, hts⟩ (c_X4_number l D y fl a_o1 o1_sign o1_number o1_weight o1_rungs r_1 hq_1) (cwV 0 hts gX0_againstFiling_X4_number rfl rfl rfl (by decide +kernel) ⟨Nat.le_of_ble_eq_true rfl, Nat.le_of_ble_eq_true rfl⟩) hK hP [3] rfl rfl rfl rfl hl.1 rfl (Nat.le_of_ble_eq_true rfl) dX0_againstFiling_1 ⟨Nat.le_of_ble_eq_true rfl, Nat.le_of_ble_eq_true rfl⟩ ?_
  refine lv_iconst (v := 0) hx hb dX0_againstFiling_4 (by decide) ?_
  refine lv_sipush (v := 999) hx hb dX0_againstFiling_5 (by decide) ?_
  obtain ⟨r_8, hq_8, hF⟩ := bn_i hF
  refine cr_S (As := [.int r_1, .int (0 : Int32), .int (999 : Int32)]) (rest := []) ⟨hx, hb, hml, hown, hts⟩ (c_X0_outside l D y fl r_1 (0 : Int32) (999 : Int32) r_8 hq_8) (va_cwS 3 hts gX0_againstFiling_X0_outside rfl rfl rfl (by decide +kernel) ⟨Nat.le_of_ble_eq_true rfl, Nat.le_of_ble_eq_true rfl⟩) hK hP [] rfl rfl hl.1 rfl (Nat.le_of_ble_eq_true rfl) dX0_againstFiling_8 ⟨Nat.le_of_ble_eq_true rfl, Nat.le_of_ble_eq_true rfl⟩ ?_
  refine lv_if_ne (tgt := 39) hx hb dX0_againstFiling_11 (by decide) (fun c_11 => ?_) (fun c_11 => ?_)
  · have hF := iff_ hF c_11
    refine lv_iconst (v := 1) hx hb dX0_againstFiling_39 (by decide) ?_
    obtain ⟨e0_40, e1_40⟩ := inj2 hF
    rw [← e0_40, ← e1_40] at hQ0
    rw [hQ0]
    exact ret_i hx hb hr hlocks hAe hK hP hD hS [0, 1, 2, 3] rfl rfl dX0_againstFiling_40
  · have hF := ift hF c_11
    refine lv_aload_n hx hb dX0_againstFiling_14 rfl (lv_at hl 1 rfl) ?_
    obtain ⟨r_15, hq_15, hF⟩ := bn_i hF
    refine cr_V (As := []) (rest := []) ⟨hx, hb, hml, hown, hts⟩ (c_X4_weight l D y fl a_o1 o1_sign o1_number o1_weight o1_rungs r_15 hq_15) (cwV 0 hts gX0_againstFiling_X4_weight rfl rfl rfl (by decide +kernel) ⟨Nat.le_of_ble_eq_true rfl, Nat.le_of_ble_eq_true rfl⟩) hK hP [3] rfl rfl rfl rfl hl.1 rfl (Nat.le_of_ble_eq_true rfl) dX0_againstFiling_15 ⟨Nat.le_of_ble_eq_true rfl, Nat.le_of_ble_eq_true rfl⟩ ?_
    refine lv_iconst (v := 0) hx hb dX0_againstFiling_18 (by decide) ?_
    refine lv_bipush (v := 99) hx hb dX0_againstFiling_19 (by decide) ?_
    obtain ⟨r_21, hq_21, hF⟩ := bn_i hF
    refine cr_S (As := [.int r_15, .int (0 : Int32), .int (99 : Int32)]) (rest := []) ⟨hx, hb, hml, hown, hts⟩ (c_X0_outside l D y fl r_15 (0 : Int32) (99 : Int32) r_21 hq_21) (va_cwS 3 hts gX0_againstFiling_X0_outside rfl rfl rfl (by decide +kernel) ⟨Nat.le_of_ble_eq_true rfl, Nat.le_of_ble_eq_true rfl⟩) hK hP [] rfl rfl hl.1 rfl (Nat.le_of_ble_eq_true rfl) dX0_againstFiling_21 ⟨Nat.le_of_ble_eq_true rfl, Nat.le_of_ble_eq_true rfl⟩ ?_
    refine lv_if_ne (tgt := 39) hx hb dX0_againstFiling_24 (by decide) (fun c_24 => ?_) (fun c_24 => ?_)
    · have hF := iff_ hF c_24
      refine lv_iconst (v := 1) hx hb dX0_againstFiling_39 (by decide) ?_
      obtain ⟨e0_40, e1_40⟩ := inj2 hF
      rw [← e0_40, ← e1_40] at hQ0
      rw [hQ0]
      exact ret_i hx hb hr hlocks hAe hK hP hD hS [0, 1, 2, 3] rfl rfl dX0_againstFiling_40
    · have hF := ift hF c_24
      refine lv_aload_n hx hb dX0_againstFiling_27 rfl (lv_at hl 1 rfl) ?_
      obtain ⟨r_28, hq_28, hF⟩ := bn_i hF
      refine cr_V (As := []) (rest := []) ⟨hx, hb, hml, hown, hts⟩ (c_X4_rungs l D y fl a_o1 o1_sign o1_number o1_weight o1_rungs r_28 hq_28) (cwV 0 hts gX0_againstFiling_X4_rungs rfl rfl rfl (by decide +kernel) ⟨Nat.le_of_ble_eq_true rfl, Nat.le_of_ble_eq_true rfl⟩) hK hP [3] rfl rfl rfl rfl hl.1 rfl (Nat.le_of_ble_eq_true rfl) dX0_againstFiling_28 ⟨Nat.le_of_ble_eq_true rfl, Nat.le_of_ble_eq_true rfl⟩ ?_
      refine lv_iconst (v := 1) hx hb dX0_againstFiling_31 (by decide) ?_
      refine lv_iconst (v := 5) hx hb dX0_againstFiling_32 (by decide) ?_
      obtain ⟨r_33, hq_33, hF⟩ := bn_i hF
      refine cr_S (As := [.int r_28, .int (1 : Int32), .int (5 : Int32)]) (rest := []) ⟨hx, hb, hml, hown, hts⟩ (c_X0_outside l D y fl r_28 (1 : Int32) (5 : Int32) r_33 hq_33) (va_cwS 3 hts gX0_againstFiling_X0_outside rfl rfl rfl (by decide +kernel) ⟨Nat.le_of_ble_eq_true rfl, Nat.le_of_ble_eq_true rfl⟩) hK hP [] rfl rfl hl.1 rfl (Nat.le_of_ble_eq_true rfl) dX0_againstFiling_33 ⟨Nat.le_of_ble_eq_true rfl, Nat.le_of_ble_eq_true rfl⟩ ?_
      refine lv_if_eq (tgt := 41) hx hb dX0_againstFiling_36 (by decide) (fun c_36 => ?_) (fun c_36 => ?_)
      · have hF := ift hF c_36
        refine lv_aload_n hx hb dX0_againstFiling_41 rfl (lv_at hl 0 rfl) ?_
        refine va_get (D := D) (ci := 4) (v := .ref a_t_ladder) (C := RX0) (T := TX0) (N := 5) hx hb hts iX0_againstFiling_X0 hown hK hP 0 rfl rfl 0 (by decide) (hts (.fieldLink RX0 24 "SkipArchive$Clerk" "ladder" "LSkipArchive$Ladder;") (List.mem_of_getElem? (i := 1) rfl)) (fun _ h9 => h9) rfl dX0_againstFiling_42 ?_
        refine lv_aload_n hx hb dX0_againstFiling_45 rfl (lv_at hl 1 rfl) ?_
        obtain ⟨r_46, hq_46, hF⟩ := bn_i hF
        refine cr_V (As := []) (rest := [.ref a_t_ladder]) ⟨hx, hb, hml, hown, hts⟩ (c_X4_number l D y fl a_o1 o1_sign o1_number o1_weight o1_rungs r_46 hq_46) (cwV 0 hts gX0_againstFiling_X4_number rfl rfl rfl (by decide +kernel) ⟨Nat.le_of_ble_eq_true rfl, Nat.le_of_ble_eq_true rfl⟩) hK hP [3] rfl rfl rfl rfl hl.1 rfl (Nat.le_of_ble_eq_true rfl) dX0_againstFiling_46 ⟨Nat.le_of_ble_eq_true rfl, Nat.le_of_ble_eq_true rfl⟩ ?_
        obtain ⟨r_49, hq_49, hF⟩ := bn_i hF
        refine cr_V (As := [.int r_46]) (rest := []) ⟨hx, hb, hml, hown, hts⟩ (c_X3_placeWith l D y fl a_t_ladder a_t_ladder_keys a_t_ladder_weights a_t_ladder_towers a_t_ladder_coin t_ladder_size t_ladder_hidden t_ladder_keys r_46 r_49 hq_49) (cwV 1 hts gX0_againstFiling_X3_placeWith rfl rfl rfl (by decide +kernel) ⟨Nat.le_of_ble_eq_true rfl, Nat.le_of_ble_eq_true rfl⟩) hK hP [1, 2] rfl rfl rfl rfl hl.1 rfl (Nat.le_of_ble_eq_true rfl) dX0_againstFiling_49 ⟨Nat.le_of_ble_eq_true rfl, Nat.le_of_ble_eq_true rfl⟩ ?_
        refine lv_istore_n (lv' := [(2, .int r_49), (0, .ref a_t), (1, .ref a_o1)]) hx hb dX0_againstFiling_52 rfl hl (by decide) rfl (fun ls hl => ?_)
        refine lv_iload_n hx hb dX0_againstFiling_53 rfl (lv_at hl 0 rfl) ?_
        refine lv_iconst (v := -1) hx hb dX0_againstFiling_54 (by decide) ?_
        refine lv_icmp_eq (tgt := 65) hx hb dX0_againstFiling_55 (by decide) (fun c_55 => ?_) (fun c_55 => ?_)
        · have hF := ift hF c_55
          refine lv_aload_n hx hb dX0_againstFiling_65 rfl (lv_at hl 1 rfl) ?_
          refine va_get (D := D) (ci := 4) (v := .ref a_t_ladder) (C := RX0) (T := TX0) (N := 5) hx hb hts iX0_againstFiling_X0 hown hK hP 0 rfl rfl 0 (by decide) (hts (.fieldLink RX0 24 "SkipArchive$Clerk" "ladder" "LSkipArchive$Ladder;") (List.mem_of_getElem? (i := 1) rfl)) (fun _ h9 => h9) rfl dX0_againstFiling_66 ?_
          obtain ⟨r_69, hq_69, hF⟩ := bn_i hF
          refine cr_V (As := []) (rest := []) ⟨hx, hb, hml, hown, hts⟩ (c_X3_isFull l D y fl a_t_ladder a_t_ladder_keys a_t_ladder_weights a_t_ladder_towers a_t_ladder_coin t_ladder_size t_ladder_hidden r_69 hq_69) (cwV 0 hts gX0_againstFiling_X3_isFull rfl rfl rfl (by decide +kernel) ⟨Nat.le_of_ble_eq_true rfl, Nat.le_of_ble_eq_true rfl⟩) hK hP [1] rfl rfl rfl rfl hl.1 rfl (Nat.le_of_ble_eq_true rfl) dX0_againstFiling_69 ⟨Nat.le_of_ble_eq_true rfl, Nat.le_of_ble_eq_true rfl⟩ ?_
          refine lv_if_eq (tgt := 85) hx hb dX0_againstFiling_72 (by decide) (fun c_72 => ?_) (fun c_72 => ?_)
          · have hF := ift hF c_72
            refine lv_iconst (v := 0) hx hb dX0_againstFiling_85 (by decide) ?_
            obtain ⟨e0_86, e1_86⟩ := inj2 hF
            rw [← e0_86, ← e1_86] at hQ0
            rw [hQ0]
            exact ret_i hx hb hr hlocks hAe hK hP hD hS [0, 1, 2, 3] rfl rfl dX0_againstFiling_86
          · have hF := iff_ hF c_72
            refine lv_aload_n hx hb dX0_againstFiling_75 rfl (lv_at hl 1 rfl) ?_
            refine lv_iconst (v := 2) hx hb dX0_againstFiling_76 (by decide) ?_
            refine lv_bipush (v := 24) hx hb dX0_againstFiling_77 (by decide) ?_
            obtain ⟨r_79, t_detail_79, hq_79, hF⟩ := bn2_i hF
            refine cm_Vi (As := [.int (2 : Int32), .int (24 : Int32)]) (rest := []) (wr := [(a_t_ladder, .inr (7, [.ref a_t_ladder_keys, .ref a_t_ladder_weights, .ref a_t_ladder_towers, .ref a_t_ladder_coin, .int t_ladder_size, .int t_ladder_hidden])), (a_t_ladder_keys, .inl (y 0, 24, .inl t_ladder_keys)), (a_o1, .inr (8, [.int o1_sign, .int o1_number, .int o1_weight, .int o1_rungs]))]) ⟨hx, hb, hml, hown, hts⟩ (c_X0_refusal l D y fl s.heap.size a_t a_t_ladder t_detail t_keptReason t_keptDetail t_keptIndex (2 : Int32) (24 : Int32) r_79 t_detail_79 hq_79) (cwV 2 hts gX0_againstFiling_X0_refusal rfl rfl rfl (by decide +kernel) ⟨Nat.le_of_ble_eq_true rfl, Nat.le_of_ble_eq_true rfl⟩) hK hP hD hS hA [0] [1, 2, 3] rfl rfl rfl rfl (by decide) rfl rfl rfl hl.1 rfl (Nat.le_of_ble_eq_true rfl) dX0_againstFiling_79 ⟨Nat.le_of_ble_eq_true rfl, Nat.le_of_ble_eq_true rfl⟩ (fun H locs hP hD hS => ?_)
            have hP : va_P D vwCl [(a_t_ladder, .inr (7, [.ref a_t_ladder_keys, .ref a_t_ladder_weights, .ref a_t_ladder_towers, .ref a_t_ladder_coin, .int t_ladder_size, .int t_ladder_hidden])), (a_t_ladder_keys, .inl (y 0, 24, .inl t_ladder_keys)), (a_o1, .inr (8, [.int o1_sign, .int o1_number, .int o1_weight, .int o1_rungs])), (a_t, .inr (4, [.ref a_t_ladder, .int t_detail_79, .int t_keptReason, .int t_keptDetail, .int t_keptIndex]))] H := hP
            have hD : va_D A [(a_t_ladder, .inr (7, [.ref a_t_ladder_keys, .ref a_t_ladder_weights, .ref a_t_ladder_towers, .ref a_t_ladder_coin, .int t_ladder_size, .int t_ladder_hidden])), (a_t_ladder_keys, .inl (y 0, 24, .inl t_ladder_keys)), (a_o1, .inr (8, [.int o1_sign, .int o1_number, .int o1_weight, .int o1_rungs])), (a_t, .inr (4, [.ref a_t_ladder, .int t_detail_79, .int t_keptReason, .int t_keptDetail, .int t_keptIndex]))] := hD
            refine lv_goto (tgt := 86) hx hb dX0_againstFiling_82 (by decide) ?_
            obtain ⟨e0_86, e1_86⟩ := inj2 hF
            rw [← e0_86, ← e1_86] at hQ0
            rw [hQ0]
            exact ret_i hx hb hr hlocks hAe hK hP hD hS [3, 0, 1, 2] rfl rfl dX0_againstFiling_86
        · have hF := iff_ hF c_55
          refine lv_aload_n hx hb dX0_againstFiling_58 rfl (lv_at hl 1 rfl) ?_
          refine lv_iconst (v := 4) hx hb dX0_againstFiling_59 (by decide) ?_
          refine lv_iload_n hx hb dX0_againstFiling_60 rfl (lv_at hl 0 rfl) ?_
          obtain ⟨r_61, t_detail_61, hq_61, hF⟩ := bn2_i hF
          refine cm_Vi (As := [.int (4 : Int32), .int r_49]) (rest := []) (wr := [(a_t_ladder, .inr (7, [.ref a_t_ladder_keys, .ref a_t_ladder_weights, .ref a_t_ladder_towers, .ref a_t_ladder_coin, .int t_ladder_size, .int t_ladder_hidden])), (a_t_ladder_keys, .inl (y 0, 24, .inl t_ladder_keys)), (a_o1, .inr (8, [.int o1_sign, .int o1_number, .int o1_weight, .int o1_rungs]))]) ⟨hx, hb, hml, hown, hts⟩ (c_X0_refusal l D y fl s.heap.size a_t a_t_ladder t_detail t_keptReason t_keptDetail t_keptIndex (4 : Int32) r_49 r_61 t_detail_61 hq_61) (cwV 2 hts gX0_againstFiling_X0_refusal rfl rfl rfl (by decide +kernel) ⟨Nat.le_of_ble_eq_true rfl, Nat.le_of_ble_eq_true rfl⟩) hK hP hD hS hA [0] [1, 2, 3] rfl rfl rfl rfl (by decide) rfl rfl rfl hl.1 rfl (Nat.le_of_ble_eq_true rfl) dX0_againstFiling_61 ⟨Nat.le_of_ble_eq_true rfl, Nat.le_of_ble_eq_true rfl⟩ (fun H locs hP hD hS => ?_)
          have hP : va_P D vwCl [(a_t_ladder, .inr (7, [.ref a_t_ladder_keys, .ref a_t_ladder_weights, .ref a_t_ladder_towers, .ref a_t_ladder_coin, .int t_ladder_size, .int t_ladder_hidden])), (a_t_ladder_keys, .inl (y 0, 24, .inl t_ladder_keys)), (a_o1, .inr (8, [.int o1_sign, .int o1_number, .int o1_weight, .int o1_rungs])), (a_t, .inr (4, [.ref a_t_ladder, .int t_detail_61, .int t_keptReason, .int t_keptDetail, .int t_keptIndex]))] H := hP
          have hD : va_D A [(a_t_ladder, .inr (7, [.ref a_t_ladder_keys, .ref a_t_ladder_weights, .ref a_t_ladder_towers, .ref a_t_ladder_coin, .int t_ladder_size, .int t_ladder_hidden])), (a_t_ladder_keys, .inl (y 0, 24, .inl t_ladder_keys)), (a_o1, .inr (8, [.int o1_sign, .int o1_number, .int o1_weight, .int o1_rungs])), (a_t, .inr (4, [.ref a_t_ladder, .int t_detail_61, .int t_keptReason, .int t_keptDetail, .int t_keptIndex]))] := hD
          obtain ⟨e0_64, e1_64⟩ := inj2 hF
          rw [← e0_64, ← e1_64] at hQ0
          rw [hQ0]
          exact ret_i hx hb hr hlocks hAe hK hP hD hS [3, 0, 1, 2] rfl rfl dX0_againstFiling_64
      · have hF := iff_ hF c_36
        refine lv_iconst (v := 1) hx hb dX0_againstFiling_39 (by decide) ?_
        obtain ⟨e0_40, e1_40⟩ := inj2 hF
        rw [← e0_40, ← e1_40] at hQ0
        rw [hQ0]
        exact ret_i hx hb hr hlocks hAe hK hP hD hS [0, 1, 2, 3] rfl rfl dX0_againstFiling_40
def F_X0_againstFolder (fl : Nat) (t_detail : Int32) (t_ladder_size : Int32) (t_ladder_keys : Nat → Int32) (t_ladder_weights : Nat → Int32) (t_ladder_towers : Nat → Int32) (o1_sign : Int32) (o1_number : Int32) (o1_weight : Int32) : Option (Int32 × Int32) := bn (F_X4_number fl o1_number) fun r_1 => bn (F_X0_outside fl r_1 (0 : Int32) (999 : Int32)) fun r_8 => if r_8 = 0 then (bn (F_X4_weight fl o1_weight) fun r_15 => bn (F_X0_outside fl r_15 (0 : Int32) (99 : Int32)) fun r_21 => if r_21 = 0 then (bn (F_X4_number fl o1_number) fun r_34 => bn (F_X3_placeWith fl t_ladder_size t_ladder_keys r_34) fun r_37 => if r_37 = (-1 : Int32) then (bn (F_X4_number fl o1_number) fun r_49 => bn2 (F_X0_refusal fl t_detail (3 : Int32) r_49) fun r_52 t_detail_52 => some (r_52, t_detail_52)) else (bn (F_X4_sign fl o1_sign) fun r_57 => if r_57 = (119 : Int32) then (bn (F_X4_weight fl o1_weight) fun r_67 => bn (F_X3_weightOf fl t_ladder_size t_ladder_weights r_37) fun r_75 => bn2 (F_X0_againstWeight fl t_detail r_67 r_75) fun r_78 t_detail_78 => some (r_78, t_detail_78)) else (bn (F_X4_sign fl o1_sign) fun r_84 => bn (F_X3_rungsOf fl t_ladder_size t_ladder_towers r_37) fun r_92 => bn2 (F_X0_againstTower fl t_detail r_84 r_92) fun r_95 t_detail_95 => some (r_95, t_detail_95)))) else (some ((1 : Int32), t_detail))) else (some ((1 : Int32), t_detail))
theorem iX0_againstFolder_X0 : ∀ w ∈ u_ws RX0 TX0 5, w ∈ wsX0_againstFolder := fun w h => List.mem_cons_of_mem _ (List.mem_append_left _ (List.mem_append_left _ (List.mem_append_left _ (List.mem_append_right _ h))))
set_option maxHeartbeats 4000000 in
set_option maxRecDepth 100000 in
theorem c_X0_againstFolder (l : Launch) (D : va_G) (y : Nat → ClassId) (fl : Nat) (sz : Nat) (a_t : Nat) (a_t_ladder : Nat) (a_t_ladder_keys : Nat) (a_t_ladder_weights : Nat) (a_t_ladder_towers : Nat) (a_t_ladder_coin : Nat) (a_o1 : Nat) (t_detail : Int32) (t_keptReason : Int32) (t_keptDetail : Int32) (t_keptIndex : Int32) (t_ladder_size : Int32) (t_ladder_hidden : Int32) (t_ladder_keys : Nat → Int32) (t_ladder_weights : Nat → Int32) (t_ladder_towers : Nat → Int32) (o1_sign : Int32) (o1_number : Int32) (o1_weight : Int32) (o1_rungs : Int32) (r : Int32) (t_detail' : Int32) (hF : F_X0_againstFolder fl t_detail t_ladder_size t_ladder_keys t_ladder_weights t_ladder_towers o1_sign o1_number o1_weight = some (r, t_detail')) : Met l yX0_againstFolder wsX0_againstFolder (rmq 2 45) (wrP D y [(a_t, .inr (4, [.ref a_t_ladder, .int t_detail, .int t_keptReason, .int t_keptDetail, .int t_keptIndex])), (a_t_ladder, .inr (7, [.ref a_t_ladder_keys, .ref a_t_ladder_weights, .ref a_t_ladder_towers, .ref a_t_ladder_coin, .int t_ladder_size, .int t_ladder_hidden])), (a_t_ladder_keys, .inl (y 0, 24, .inl t_ladder_keys)), (a_t_ladder_weights, .inl (y 0, 24, .inl t_ladder_weights)), (a_t_ladder_towers, .inl (y 0, 24, .inl t_ladder_towers)), (a_o1, .inr (8, [.int o1_sign, .int o1_number, .int o1_weight, .int o1_rungs]))] sz [.ref a_t, .ref a_o1]) (wQi D y r [(a_t, .inr (4, [.ref a_t_ladder, .int t_detail', .int t_keptReason, .int t_keptDetail, .int t_keptIndex])), (a_t_ladder, .inr (7, [.ref a_t_ladder_keys, .ref a_t_ladder_weights, .ref a_t_ladder_towers, .ref a_t_ladder_coin, .int t_ladder_size, .int t_ladder_hidden])), (a_t_ladder_keys, .inl (y 0, 24, .inl t_ladder_keys)), (a_t_ladder_weights, .inl (y 0, 24, .inl t_ladder_weights)), (a_t_ladder_towers, .inl (y 0, 24, .inl t_ladder_towers)), (a_o1, .inr (8, [.int o1_sign, .int o1_number, .int o1_weight, .int o1_rungs]))] [(a_t, .inr (4, [.ref a_t_ladder, .int t_detail, .int t_keptReason, .int t_keptDetail, .int t_keptIndex])), (a_t_ladder, .inr (7, [.ref a_t_ladder_keys, .ref a_t_ladder_weights, .ref a_t_ladder_towers, .ref a_t_ladder_coin, .int t_ladder_size, .int t_ladder_hidden])), (a_t_ladder_keys, .inl (y 0, 24, .inl t_ladder_keys)), (a_t_ladder_weights, .inl (y 0, 24, .inl t_ladder_weights)), (a_t_ladder_towers, .inl (y 0, 24, .inl t_ladder_towers)), (a_o1, .inr (8, [.int o1_sign, .int o1_number, .int o1_weight, .int o1_rungs]))] sz) 0 0 (va_A [(a_t, .inr (4, [.ref a_t_ladder, .int t_detail, .int t_keptReason, .int t_keptDetail, .int t_keptIndex])), (a_t_ladder, .inr (7, [.ref a_t_ladder_keys, .ref a_t_ladder_weights, .ref a_t_ladder_towers, .ref a_t_ladder_coin, .int t_ladder_size, .int t_ladder_hidden])), (a_t_ladder_keys, .inl (y 0, 24, .inl t_ladder_keys)), (a_t_ladder_weights, .inl (y 0, 24, .inl t_ladder_weights)), (a_t_ladder_towers, .inl (y 0, 24, .inl t_ladder_towers)), (a_o1, .inr (8, [.int o1_sign, .int o1_number, .int o1_weight, .int o1_rungs]))] sz) := by
  refine Met.ofW (cc := cX0_againstFolder) (maxL := 3) (ret := (some .int)) (by decide) rfl ?_
  intro p e s m args below meth c s₁ B hml hv
  obtain ⟨hav, hsz, hP, hK, hD0⟩ := hv
  have hx := B.exec
  have hb := B.bytes
  have hr := B.returns
  have hts := atoms_spec (ws := wsX0_againstFolder) B.pre
  have hown : s.vm.findClass RX0 = some m.cls := findClass_of_methodNamed B.named
  have hlocks := B.notSynchronized
  subst hsz
  have hD := hD0.self (sz := s.heap.size)
  obtain ⟨A, hAe⟩ : ∃ A : Nat → Prop, va_A [(a_t, .inr (4, [.ref a_t_ladder, .int t_detail, .int t_keptReason, .int t_keptDetail, .int t_keptIndex])), (a_t_ladder, .inr (7, [.ref a_t_ladder_keys, .ref a_t_ladder_weights, .ref a_t_ladder_towers, .ref a_t_ladder_coin, .int t_ladder_size, .int t_ladder_hidden])), (a_t_ladder_keys, .inl (y 0, 24, .inl t_ladder_keys)), (a_t_ladder_weights, .inl (y 0, 24, .inl t_ladder_weights)), (a_t_ladder_towers, .inl (y 0, 24, .inl t_ladder_towers)), (a_o1, .inr (8, [.int o1_sign, .int o1_number, .int o1_weight, .int o1_rungs]))] s.heap.size = A := ⟨_, rfl⟩
  rw [hAe] at hD
  have hA : ∀ q, s.heap.size ≤ q → A q := fun q h => by rw [← hAe]; exact Or.inr h
  have hS : va_S A s.heap s.heap [] := va_S.rf
  refine W_q (R1 := (rmq 2 45)) rfl (fun Q0 hQ0 => ?_)
  unfold F_X0_againstFolder at hF
  refine W_entry hav (Nat.le_of_ble_eq_true rfl) (fun ls hl => ?_)
  have hl : lv_has ls 3 [(0, .ref a_t), (1, .ref a_o1)] := hl
  refine lv_aload_n hx hb dX0_againstFolder_0 rfl (lv_at hl 1 rfl) ?_
  obtain ⟨r_1, hq_1, hF⟩ := bn_i hF
  refine cr_V (As := []) (rest := []) ⟨hx, hb, hml, hown, hts⟩ (c_X4_number l D y fl a_o1 o1_sign o1_number o1_weight o1_rungs r_1 hq_1) (cwV 0 hts gX0_againstFolder_X4_number rfl rfl rfl (by decide +kernel) ⟨Nat.le_of_ble_eq_true rfl, Nat.le_of_ble_eq_true rfl⟩) hK hP [5] rfl rfl rfl rfl hl.1 rfl (Nat.le_of_ble_eq_true rfl) dX0_againstFolder_1 ⟨Nat.le_of_ble_eq_true rfl, Nat.le_of_ble_eq_true rfl⟩ ?_
  refine lv_iconst (v := 0) hx hb dX0_againstFolder_4 (by decide) ?_
  refine lv_sipush (v := 999) hx hb dX0_againstFolder_5 (by decide) ?_
  obtain ⟨r_8, hq_8, hF⟩ := bn_i hF
  refine cr_S (As := [.int r_1, .int (0 : Int32), .int (999 : Int32)]) (rest := []) ⟨hx, hb, hml, hown, hts⟩ (c_X0_outside l D y fl r_1 (0 : Int32) (999 : Int32) r_8 hq_8) (va_cwS 3 hts gX0_againstFolder_X0_outside rfl rfl rfl (by decide +kernel) ⟨Nat.le_of_ble_eq_true rfl, Nat.le_of_ble_eq_true rfl⟩) hK hP [] rfl rfl hl.1 rfl (Nat.le_of_ble_eq_true rfl) dX0_againstFolder_8 ⟨Nat.le_of_ble_eq_true rfl, Nat.le_of_ble_eq_true rfl⟩ ?_
  refine lv_if_ne (tgt := 27) hx hb dX0_againstFolder_11 (by decide) (fun c_11 => ?_) (fun c_11 => ?_)
  · have hF := iff_ hF c_11
    refine lv_iconst (v := 1) hx hb dX0_againstFolder_27 (by decide) ?_
    obtain ⟨e0_28, e1_28⟩ := inj2 hF
    rw [← e0_28, ← e1_28] at hQ0
    rw [hQ0]
    exact ret_i hx hb hr hlocks hAe hK hP hD hS [0, 1, 2, 3, 4, 5] rfl rfl dX0_againstFolder_28
  · have hF := ift hF c_11
    refine lv_aload_n hx hb dX0_againstFolder_14 rfl (lv_at hl 1 rfl) ?_
    obtain ⟨r_15, hq_15, hF⟩ := bn_i hF
    refine cr_V (As := []) (rest := []) ⟨hx, hb, hml, hown, hts⟩ (c_X4_weight l D y fl a_o1 o1_sign o1_number o1_weight o1_rungs r_15 hq_15) (cwV 0 hts gX0_againstFolder_X4_weight rfl rfl rfl (by decide +kernel) ⟨Nat.le_of_ble_eq_true rfl, Nat.le_of_ble_eq_true rfl⟩) hK hP [5] rfl rfl rfl rfl hl.1 rfl (Nat.le_of_ble_eq_true rfl) dX0_againstFolder_15 ⟨Nat.le_of_ble_eq_true rfl, Nat.le_of_ble_eq_true rfl⟩ ?_
    refine lv_iconst (v := 0) hx hb dX0_againstFolder_18 (by decide) ?_
    refine lv_bipush (v := 99) hx hb dX0_againstFolder_19 (by decide) ?_
    obtain ⟨r_21, hq_21, hF⟩ := bn_i hF
    refine cr_S (As := [.int r_15, .int (0 : Int32), .int (99 : Int32)]) (rest := []) ⟨hx, hb, hml, hown, hts⟩ (c_X0_outside l D y fl r_15 (0 : Int32) (99 : Int32) r_21 hq_21) (va_cwS 3 hts gX0_againstFolder_X0_outside rfl rfl rfl (by decide +kernel) ⟨Nat.le_of_ble_eq_true rfl, Nat.le_of_ble_eq_true rfl⟩) hK hP [] rfl rfl hl.1 rfl (Nat.le_of_ble_eq_true rfl) dX0_againstFolder_21 ⟨Nat.le_of_ble_eq_true rfl, Nat.le_of_ble_eq_true rfl⟩ ?_
    refine lv_if_eq (tgt := 29) hx hb dX0_againstFolder_24 (by decide) (fun c_24 => ?_) (fun c_24 => ?_)
    · have hF := ift hF c_24
      refine lv_aload_n hx hb dX0_againstFolder_29 rfl (lv_at hl 0 rfl) ?_
      refine va_get (D := D) (ci := 4) (v := .ref a_t_ladder) (C := RX0) (T := TX0) (N := 5) hx hb hts iX0_againstFolder_X0 hown hK hP 0 rfl rfl 0 (by decide) (hts (.fieldLink RX0 24 "SkipArchive$Clerk" "ladder" "LSkipArchive$Ladder;") (List.mem_of_getElem? (i := 1) rfl)) (fun _ h9 => h9) rfl dX0_againstFolder_30 ?_
      refine lv_aload_n hx hb dX0_againstFolder_33 rfl (lv_at hl 1 rfl) ?_
      obtain ⟨r_34, hq_34, hF⟩ := bn_i hF
      refine cr_V (As := []) (rest := [.ref a_t_ladder]) ⟨hx, hb, hml, hown, hts⟩ (c_X4_number l D y fl a_o1 o1_sign o1_number o1_weight o1_rungs r_34 hq_34) (cwV 0 hts gX0_againstFolder_X4_number rfl rfl rfl (by decide +kernel) ⟨Nat.le_of_ble_eq_true rfl, Nat.le_of_ble_eq_true rfl⟩) hK hP [5] rfl rfl rfl rfl hl.1 rfl (Nat.le_of_ble_eq_true rfl) dX0_againstFolder_34 ⟨Nat.le_of_ble_eq_true rfl, Nat.le_of_ble_eq_true rfl⟩ ?_
      obtain ⟨r_37, hq_37, hF⟩ := bn_i hF
      refine cr_V (As := [.int r_34]) (rest := []) ⟨hx, hb, hml, hown, hts⟩ (c_X3_placeWith l D y fl a_t_ladder a_t_ladder_keys a_t_ladder_weights a_t_ladder_towers a_t_ladder_coin t_ladder_size t_ladder_hidden t_ladder_keys r_34 r_37 hq_37) (cwV 1 hts gX0_againstFolder_X3_placeWith rfl rfl rfl (by decide +kernel) ⟨Nat.le_of_ble_eq_true rfl, Nat.le_of_ble_eq_true rfl⟩) hK hP [1, 2] rfl rfl rfl rfl hl.1 rfl (Nat.le_of_ble_eq_true rfl) dX0_againstFolder_37 ⟨Nat.le_of_ble_eq_true rfl, Nat.le_of_ble_eq_true rfl⟩ ?_
      refine lv_istore_n (lv' := [(2, .int r_37), (0, .ref a_t), (1, .ref a_o1)]) hx hb dX0_againstFolder_40 rfl hl (by decide) rfl (fun ls hl => ?_)
      refine lv_iload_n hx hb dX0_againstFolder_41 rfl (lv_at hl 0 rfl) ?_
      refine lv_iconst (v := -1) hx hb dX0_againstFolder_42 (by decide) ?_
      refine lv_icmp_ne (tgt := 56) hx hb dX0_againstFolder_43 (by decide) (fun c_43 => ?_) (fun c_43 => ?_)
      · have hF := iff_ hF c_43
        refine lv_aload_n hx hb dX0_againstFolder_56 rfl (lv_at hl 2 rfl) ?_
        obtain ⟨r_57, hq_57, hF⟩ := bn_i hF
        refine cr_V (As := []) (rest := []) ⟨hx, hb, hml, hown, hts⟩ (c_X4_sign l D y fl a_o1 o1_sign o1_number o1_weight o1_rungs r_57 hq_57) (cwV 0 hts gX0_againstFolder_X4_sign rfl rfl rfl (by decide +kernel) ⟨Nat.le_of_ble_eq_true rfl, Nat.le_of_ble_eq_true rfl⟩) hK hP [5] rfl rfl rfl rfl hl.1 rfl (Nat.le_of_ble_eq_true rfl) dX0_againstFolder_57 ⟨Nat.le_of_ble_eq_true rfl, Nat.le_of_ble_eq_true rfl⟩ ?_
        refine lv_bipush (v := 119) hx hb dX0_againstFolder_60 (by decide) ?_
        refine lv_icmp_ne (tgt := 82) hx hb dX0_againstFolder_62 (by decide) (fun c_62 => ?_) (fun c_62 => ?_)
        · have hF := iff_ hF c_62
          refine lv_aload_n hx hb dX0_againstFolder_82 rfl (lv_at hl 1 rfl) ?_
          refine lv_aload_n hx hb dX0_againstFolder_83 rfl (lv_at hl 2 rfl) ?_
          obtain ⟨r_84, hq_84, hF⟩ := bn_i hF
          refine cr_V (As := []) (rest := [.ref a_t]) ⟨hx, hb, hml, hown, hts⟩ (c_X4_sign l D y fl a_o1 o1_sign o1_number o1_weight o1_rungs r_84 hq_84) (cwV 0 hts gX0_againstFolder_X4_sign rfl rfl rfl (by decide +kernel) ⟨Nat.le_of_ble_eq_true rfl, Nat.le_of_ble_eq_true rfl⟩) hK hP [5] rfl rfl rfl rfl hl.1 rfl (Nat.le_of_ble_eq_true rfl) dX0_againstFolder_84 ⟨Nat.le_of_ble_eq_true rfl, Nat.le_of_ble_eq_true rfl⟩ ?_
          refine lv_aload_n hx hb dX0_againstFolder_87 rfl (lv_at hl 1 rfl) ?_
          refine va_get (D := D) (ci := 4) (v := .ref a_t_ladder) (C := RX0) (T := TX0) (N := 5) hx hb hts iX0_againstFolder_X0 hown hK hP 0 rfl rfl 0 (by decide) (hts (.fieldLink RX0 24 "SkipArchive$Clerk" "ladder" "LSkipArchive$Ladder;") (List.mem_of_getElem? (i := 1) rfl)) (fun _ h9 => h9) rfl dX0_againstFolder_88 ?_
          refine lv_iload_n hx hb dX0_againstFolder_91 rfl (lv_at hl 0 rfl) ?_
          obtain ⟨r_92, hq_92, hF⟩ := bn_i hF
          refine cr_V (As := [.int r_37]) (rest := [.int r_84, .ref a_t]) ⟨hx, hb, hml, hown, hts⟩ (c_X3_rungsOf l D y fl a_t_ladder a_t_ladder_keys a_t_ladder_weights a_t_ladder_towers a_t_ladder_coin t_ladder_size t_ladder_hidden t_ladder_towers r_37 r_92 hq_92) (cwV 1 hts gX0_againstFolder_X3_rungsOf rfl rfl rfl (by decide +kernel) ⟨Nat.le_of_ble_eq_true rfl, Nat.le_of_ble_eq_true rfl⟩) hK hP [1, 4] rfl rfl rfl rfl hl.1 rfl (Nat.le_of_ble_eq_true rfl) dX0_againstFolder_92 ⟨Nat.le_of_ble_eq_true rfl, Nat.le_of_ble_eq_true rfl⟩ ?_
          obtain ⟨r_95, t_detail_95, hq_95, hF⟩ := bn2_i hF
          refine cm_Vi (As := [.int r_84, .int r_92]) (rest := []) (wr := [(a_t_ladder, .inr (7, [.ref a_t_ladder_keys, .ref a_t_ladder_weights, .ref a_t_ladder_towers, .ref a_t_ladder_coin, .int t_ladder_size, .int t_ladder_hidden])), (a_t_ladder_keys, .inl (y 0, 24, .inl t_ladder_keys)), (a_t_ladder_weights, .inl (y 0, 24, .inl t_ladder_weights)), (a_t_ladder_towers, .inl (y 0, 24, .inl t_ladder_towers)), (a_o1, .inr (8, [.int o1_sign, .int o1_number, .int o1_weight, .int o1_rungs]))]) ⟨hx, hb, hml, hown, hts⟩ (c_X0_againstTower l D y fl s.heap.size a_t a_t_ladder t_detail t_keptReason t_keptDetail t_keptIndex r_84 r_92 r_95 t_detail_95 hq_95) (cwV 2 hts gX0_againstFolder_X0_againstTower rfl rfl rfl (by decide +kernel) ⟨Nat.le_of_ble_eq_true rfl, Nat.le_of_ble_eq_true rfl⟩) hK hP hD hS hA [0] [1, 2, 3, 4, 5] rfl rfl rfl rfl (by decide) rfl rfl rfl hl.1 rfl (Nat.le_of_ble_eq_true rfl) dX0_againstFolder_95 ⟨Nat.le_of_ble_eq_true rfl, Nat.le_of_ble_eq_true rfl⟩ (fun H locs hP hD hS => ?_)
          have hP : va_P D vwCl [(a_t_ladder, .inr (7, [.ref a_t_ladder_keys, .ref a_t_ladder_weights, .ref a_t_ladder_towers, .ref a_t_ladder_coin, .int t_ladder_size, .int t_ladder_hidden])), (a_t_ladder_keys, .inl (y 0, 24, .inl t_ladder_keys)), (a_t_ladder_weights, .inl (y 0, 24, .inl t_ladder_weights)), (a_t_ladder_towers, .inl (y 0, 24, .inl t_ladder_towers)), (a_o1, .inr (8, [.int o1_sign, .int o1_number, .int o1_weight, .int o1_rungs])), (a_t, .inr (4, [.ref a_t_ladder, .int t_detail_95, .int t_keptReason, .int t_keptDetail, .int t_keptIndex]))] H := hP
          have hD : va_D A [(a_t_ladder, .inr (7, [.ref a_t_ladder_keys, .ref a_t_ladder_weights, .ref a_t_ladder_towers, .ref a_t_ladder_coin, .int t_ladder_size, .int t_ladder_hidden])), (a_t_ladder_keys, .inl (y 0, 24, .inl t_ladder_keys)), (a_t_ladder_weights, .inl (y 0, 24, .inl t_ladder_weights)), (a_t_ladder_towers, .inl (y 0, 24, .inl t_ladder_towers)), (a_o1, .inr (8, [.int o1_sign, .int o1_number, .int o1_weight, .int o1_rungs])), (a_t, .inr (4, [.ref a_t_ladder, .int t_detail_95, .int t_keptReason, .int t_keptDetail, .int t_keptIndex]))] := hD
          obtain ⟨e0_98, e1_98⟩ := inj2 hF
          rw [← e0_98, ← e1_98] at hQ0
          rw [hQ0]
          exact ret_i hx hb hr hlocks hAe hK hP hD hS [5, 0, 1, 2, 3, 4] rfl rfl dX0_againstFolder_98
        · have hF := ift hF c_62
          refine lv_aload_n hx hb dX0_againstFolder_65 rfl (lv_at hl 1 rfl) ?_
          refine lv_aload_n hx hb dX0_againstFolder_66 rfl (lv_at hl 2 rfl) ?_
          obtain ⟨r_67, hq_67, hF⟩ := bn_i hF
          refine cr_V (As := []) (rest := [.ref a_t]) ⟨hx, hb, hml, hown, hts⟩ (c_X4_weight l D y fl a_o1 o1_sign o1_number o1_weight o1_rungs r_67 hq_67) (cwV 0 hts gX0_againstFolder_X4_weight rfl rfl rfl (by decide +kernel) ⟨Nat.le_of_ble_eq_true rfl, Nat.le_of_ble_eq_true rfl⟩) hK hP [5] rfl rfl rfl rfl hl.1 rfl (Nat.le_of_ble_eq_true rfl) dX0_againstFolder_67 ⟨Nat.le_of_ble_eq_true rfl, Nat.le_of_ble_eq_true rfl⟩ ?_
          refine lv_aload_n hx hb dX0_againstFolder_70 rfl (lv_at hl 1 rfl) ?_
          refine va_get (D := D) (ci := 4) (v := .ref a_t_ladder) (C := RX0) (T := TX0) (N := 5) hx hb hts iX0_againstFolder_X0 hown hK hP 0 rfl rfl 0 (by decide) (hts (.fieldLink RX0 24 "SkipArchive$Clerk" "ladder" "LSkipArchive$Ladder;") (List.mem_of_getElem? (i := 1) rfl)) (fun _ h9 => h9) rfl dX0_againstFolder_71 ?_
          refine lv_iload_n hx hb dX0_againstFolder_74 rfl (lv_at hl 0 rfl) ?_
          obtain ⟨r_75, hq_75, hF⟩ := bn_i hF
          refine cr_V (As := [.int r_37]) (rest := [.int r_67, .ref a_t]) ⟨hx, hb, hml, hown, hts⟩ (c_X3_weightOf l D y fl a_t_ladder a_t_ladder_keys a_t_ladder_weights a_t_ladder_towers a_t_ladder_coin t_ladder_size t_ladder_hidden t_ladder_weights r_37 r_75 hq_75) (cwV 1 hts gX0_againstFolder_X3_weightOf rfl rfl rfl (by decide +kernel) ⟨Nat.le_of_ble_eq_true rfl, Nat.le_of_ble_eq_true rfl⟩) hK hP [1, 3] rfl rfl rfl rfl hl.1 rfl (Nat.le_of_ble_eq_true rfl) dX0_againstFolder_75 ⟨Nat.le_of_ble_eq_true rfl, Nat.le_of_ble_eq_true rfl⟩ ?_
          obtain ⟨r_78, t_detail_78, hq_78, hF⟩ := bn2_i hF
          refine cm_Vi (As := [.int r_67, .int r_75]) (rest := []) (wr := [(a_t_ladder, .inr (7, [.ref a_t_ladder_keys, .ref a_t_ladder_weights, .ref a_t_ladder_towers, .ref a_t_ladder_coin, .int t_ladder_size, .int t_ladder_hidden])), (a_t_ladder_keys, .inl (y 0, 24, .inl t_ladder_keys)), (a_t_ladder_weights, .inl (y 0, 24, .inl t_ladder_weights)), (a_t_ladder_towers, .inl (y 0, 24, .inl t_ladder_towers)), (a_o1, .inr (8, [.int o1_sign, .int o1_number, .int o1_weight, .int o1_rungs]))]) ⟨hx, hb, hml, hown, hts⟩ (c_X0_againstWeight l D y fl s.heap.size a_t a_t_ladder t_detail t_keptReason t_keptDetail t_keptIndex r_67 r_75 r_78 t_detail_78 hq_78) (cwV 2 hts gX0_againstFolder_X0_againstWeight rfl rfl rfl (by decide +kernel) ⟨Nat.le_of_ble_eq_true rfl, Nat.le_of_ble_eq_true rfl⟩) hK hP hD hS hA [0] [1, 2, 3, 4, 5] rfl rfl rfl rfl (by decide) rfl rfl rfl hl.1 rfl (Nat.le_of_ble_eq_true rfl) dX0_againstFolder_78 ⟨Nat.le_of_ble_eq_true rfl, Nat.le_of_ble_eq_true rfl⟩ (fun H locs hP hD hS => ?_)
          have hP : va_P D vwCl [(a_t_ladder, .inr (7, [.ref a_t_ladder_keys, .ref a_t_ladder_weights, .ref a_t_ladder_towers, .ref a_t_ladder_coin, .int t_ladder_size, .int t_ladder_hidden])), (a_t_ladder_keys, .inl (y 0, 24, .inl t_ladder_keys)), (a_t_ladder_weights, .inl (y 0, 24, .inl t_ladder_weights)), (a_t_ladder_towers, .inl (y 0, 24, .inl t_ladder_towers)), (a_o1, .inr (8, [.int o1_sign, .int o1_number, .int o1_weight, .int o1_rungs])), (a_t, .inr (4, [.ref a_t_ladder, .int t_detail_78, .int t_keptReason, .int t_keptDetail, .int t_keptIndex]))] H := hP
          have hD : va_D A [(a_t_ladder, .inr (7, [.ref a_t_ladder_keys, .ref a_t_ladder_weights, .ref a_t_ladder_towers, .ref a_t_ladder_coin, .int t_ladder_size, .int t_ladder_hidden])), (a_t_ladder_keys, .inl (y 0, 24, .inl t_ladder_keys)), (a_t_ladder_weights, .inl (y 0, 24, .inl t_ladder_weights)), (a_t_ladder_towers, .inl (y 0, 24, .inl t_ladder_towers)), (a_o1, .inr (8, [.int o1_sign, .int o1_number, .int o1_weight, .int o1_rungs])), (a_t, .inr (4, [.ref a_t_ladder, .int t_detail_78, .int t_keptReason, .int t_keptDetail, .int t_keptIndex]))] := hD
          obtain ⟨e0_81, e1_81⟩ := inj2 hF
          rw [← e0_81, ← e1_81] at hQ0
          rw [hQ0]
          exact ret_i hx hb hr hlocks hAe hK hP hD hS [5, 0, 1, 2, 3, 4] rfl rfl dX0_againstFolder_81
      · have hF := ift hF c_43
        refine lv_aload_n hx hb dX0_againstFolder_46 rfl (lv_at hl 1 rfl) ?_
        refine lv_iconst (v := 3) hx hb dX0_againstFolder_47 (by decide) ?_
        refine lv_aload_n hx hb dX0_againstFolder_48 rfl (lv_at hl 2 rfl) ?_
        obtain ⟨r_49, hq_49, hF⟩ := bn_i hF
        refine cr_V (As := []) (rest := [.int (3 : Int32), .ref a_t]) ⟨hx, hb, hml, hown, hts⟩ (c_X4_number l D y fl a_o1 o1_sign o1_number o1_weight o1_rungs r_49 hq_49) (cwV 0 hts gX0_againstFolder_X4_number rfl rfl rfl (by decide +kernel) ⟨Nat.le_of_ble_eq_true rfl, Nat.le_of_ble_eq_true rfl⟩) hK hP [5] rfl rfl rfl rfl hl.1 rfl (Nat.le_of_ble_eq_true rfl) dX0_againstFolder_49 ⟨Nat.le_of_ble_eq_true rfl, Nat.le_of_ble_eq_true rfl⟩ ?_
        obtain ⟨r_52, t_detail_52, hq_52, hF⟩ := bn2_i hF
        refine cm_Vi (As := [.int (3 : Int32), .int r_49]) (rest := []) (wr := [(a_t_ladder, .inr (7, [.ref a_t_ladder_keys, .ref a_t_ladder_weights, .ref a_t_ladder_towers, .ref a_t_ladder_coin, .int t_ladder_size, .int t_ladder_hidden])), (a_t_ladder_keys, .inl (y 0, 24, .inl t_ladder_keys)), (a_t_ladder_weights, .inl (y 0, 24, .inl t_ladder_weights)), (a_t_ladder_towers, .inl (y 0, 24, .inl t_ladder_towers)), (a_o1, .inr (8, [.int o1_sign, .int o1_number, .int o1_weight, .int o1_rungs]))]) ⟨hx, hb, hml, hown, hts⟩ (c_X0_refusal l D y fl s.heap.size a_t a_t_ladder t_detail t_keptReason t_keptDetail t_keptIndex (3 : Int32) r_49 r_52 t_detail_52 hq_52) (cwV 2 hts gX0_againstFolder_X0_refusal rfl rfl rfl (by decide +kernel) ⟨Nat.le_of_ble_eq_true rfl, Nat.le_of_ble_eq_true rfl⟩) hK hP hD hS hA [0] [1, 2, 3, 4, 5] rfl rfl rfl rfl (by decide) rfl rfl rfl hl.1 rfl (Nat.le_of_ble_eq_true rfl) dX0_againstFolder_52 ⟨Nat.le_of_ble_eq_true rfl, Nat.le_of_ble_eq_true rfl⟩ (fun H locs hP hD hS => ?_)
        have hP : va_P D vwCl [(a_t_ladder, .inr (7, [.ref a_t_ladder_keys, .ref a_t_ladder_weights, .ref a_t_ladder_towers, .ref a_t_ladder_coin, .int t_ladder_size, .int t_ladder_hidden])), (a_t_ladder_keys, .inl (y 0, 24, .inl t_ladder_keys)), (a_t_ladder_weights, .inl (y 0, 24, .inl t_ladder_weights)), (a_t_ladder_towers, .inl (y 0, 24, .inl t_ladder_towers)), (a_o1, .inr (8, [.int o1_sign, .int o1_number, .int o1_weight, .int o1_rungs])), (a_t, .inr (4, [.ref a_t_ladder, .int t_detail_52, .int t_keptReason, .int t_keptDetail, .int t_keptIndex]))] H := hP
        have hD : va_D A [(a_t_ladder, .inr (7, [.ref a_t_ladder_keys, .ref a_t_ladder_weights, .ref a_t_ladder_towers, .ref a_t_ladder_coin, .int t_ladder_size, .int t_ladder_hidden])), (a_t_ladder_keys, .inl (y 0, 24, .inl t_ladder_keys)), (a_t_ladder_weights, .inl (y 0, 24, .inl t_ladder_weights)), (a_t_ladder_towers, .inl (y 0, 24, .inl t_ladder_towers)), (a_o1, .inr (8, [.int o1_sign, .int o1_number, .int o1_weight, .int o1_rungs])), (a_t, .inr (4, [.ref a_t_ladder, .int t_detail_52, .int t_keptReason, .int t_keptDetail, .int t_keptIndex]))] := hD
        obtain ⟨e0_55, e1_55⟩ := inj2 hF
        rw [← e0_55, ← e1_55] at hQ0
        rw [hQ0]
        exact ret_i hx hb hr hlocks hAe hK hP hD hS [5, 0, 1, 2, 3, 4] rfl rfl dX0_againstFolder_55
    · have hF := iff_ hF c_24
      refine lv_iconst (v := 1) hx hb dX0_againstFolder_27 (by decide) ?_
      obtain ⟨e0_28, e1_28⟩ := inj2 hF
      rw [← e0_28, ← e1_28] at hQ0
      rw [hQ0]
      exact ret_i hx hb hr hlocks hAe hK hP hD hS [0, 1, 2, 3, 4, 5] rfl rfl dX0_againstFolder_28
def F_X0_reasonAgainst (fl : Nat) (t_detail : Int32) (t_ladder_size : Int32) (t_ladder_hidden : Int32) (t_ladder_keys : Nat → Int32) (t_ladder_weights : Nat → Int32) (t_ladder_towers : Nat → Int32) (o1_sign : Int32) (o1_number : Int32) (o1_weight : Int32) (o1_rungs : Int32) : Option (Int32 × Int32) := bn (F_X4_sign fl o1_sign) fun r_1 => if r_1 = (43 : Int32) then (bn2 (F_X0_againstFiling fl t_detail t_ladder_size t_ladder_keys o1_number o1_weight o1_rungs) fun r_82 t_detail_82 => some (r_82, t_detail_82)) else (if r_1 = (45 : Int32) then (bn2 (F_X0_againstFolder fl t_detail t_ladder_size t_ladder_keys t_ladder_weights t_ladder_towers o1_sign o1_number o1_weight) fun r_88 t_detail_88 => some (r_88, t_detail_88)) else (if r_1 = (94 : Int32) then (bn2 (F_X0_againstFiling fl t_detail t_ladder_size t_ladder_keys o1_number o1_weight o1_rungs) fun r_82b t_detail_82b => some (r_82b, t_detail_82b)) else (if r_1 = (100 : Int32) then (bn2 (F_X0_againstFolder fl t_detail t_ladder_size t_ladder_keys t_ladder_weights t_ladder_towers o1_sign o1_number o1_weight) fun r_88b t_detail_88b => some (r_88b, t_detail_88b)) else (if r_1 = (102 : Int32) then (bn2 (F_X0_againstLevel fl t_detail t_ladder_hidden o1_sign o1_number) fun r_94 t_detail_94 => some (r_94, t_detail_94)) else (if r_1 = (114 : Int32) then (bn2 (F_X0_againstLevel fl t_detail t_ladder_hidden o1_sign o1_number) fun r_94b t_detail_94b => some (r_94b, t_detail_94b)) else (if r_1 = (117 : Int32) then (bn2 (F_X0_againstFolder fl t_detail t_ladder_size t_ladder_keys t_ladder_weights t_ladder_towers o1_sign o1_number o1_weight) fun r_88bb t_detail_88bb => some (r_88bb, t_detail_88bb)) else (if r_1 = (119 : Int32) then (bn2 (F_X0_againstFolder fl t_detail t_ladder_size t_ladder_keys t_ladder_weights t_ladder_towers o1_sign o1_number o1_weight) fun r_88bbb t_detail_88bbb => some (r_88bbb, t_detail_88bbb)) else (some ((0 : Int32), t_detail)))))))))
set_option maxHeartbeats 4000000 in
set_option maxRecDepth 100000 in
theorem c_X0_reasonAgainst (l : Launch) (D : va_G) (y : Nat → ClassId) (fl : Nat) (sz : Nat) (a_t : Nat) (a_t_ladder : Nat) (a_t_ladder_keys : Nat) (a_t_ladder_weights : Nat) (a_t_ladder_towers : Nat) (a_t_ladder_coin : Nat) (a_o1 : Nat) (t_detail : Int32) (t_keptReason : Int32) (t_keptDetail : Int32) (t_keptIndex : Int32) (t_ladder_size : Int32) (t_ladder_hidden : Int32) (t_ladder_keys : Nat → Int32) (t_ladder_weights : Nat → Int32) (t_ladder_towers : Nat → Int32) (o1_sign : Int32) (o1_number : Int32) (o1_weight : Int32) (o1_rungs : Int32) (r : Int32) (t_detail' : Int32) (hF : F_X0_reasonAgainst fl t_detail t_ladder_size t_ladder_hidden t_ladder_keys t_ladder_weights t_ladder_towers o1_sign o1_number o1_weight o1_rungs = some (r, t_detail')) : Met l yX0_reasonAgainst wsX0_reasonAgainst (rmq 3 67) (wrP D y [(a_t, .inr (4, [.ref a_t_ladder, .int t_detail, .int t_keptReason, .int t_keptDetail, .int t_keptIndex])), (a_t_ladder, .inr (7, [.ref a_t_ladder_keys, .ref a_t_ladder_weights, .ref a_t_ladder_towers, .ref a_t_ladder_coin, .int t_ladder_size, .int t_ladder_hidden])), (a_t_ladder_keys, .inl (y 0, 24, .inl t_ladder_keys)), (a_t_ladder_weights, .inl (y 0, 24, .inl t_ladder_weights)), (a_t_ladder_towers, .inl (y 0, 24, .inl t_ladder_towers)), (a_o1, .inr (8, [.int o1_sign, .int o1_number, .int o1_weight, .int o1_rungs]))] sz [.ref a_t, .ref a_o1]) (wQi D y r [(a_t, .inr (4, [.ref a_t_ladder, .int t_detail', .int t_keptReason, .int t_keptDetail, .int t_keptIndex])), (a_t_ladder, .inr (7, [.ref a_t_ladder_keys, .ref a_t_ladder_weights, .ref a_t_ladder_towers, .ref a_t_ladder_coin, .int t_ladder_size, .int t_ladder_hidden])), (a_t_ladder_keys, .inl (y 0, 24, .inl t_ladder_keys)), (a_t_ladder_weights, .inl (y 0, 24, .inl t_ladder_weights)), (a_t_ladder_towers, .inl (y 0, 24, .inl t_ladder_towers)), (a_o1, .inr (8, [.int o1_sign, .int o1_number, .int o1_weight, .int o1_rungs]))] [(a_t, .inr (4, [.ref a_t_ladder, .int t_detail, .int t_keptReason, .int t_keptDetail, .int t_keptIndex])), (a_t_ladder, .inr (7, [.ref a_t_ladder_keys, .ref a_t_ladder_weights, .ref a_t_ladder_towers, .ref a_t_ladder_coin, .int t_ladder_size, .int t_ladder_hidden])), (a_t_ladder_keys, .inl (y 0, 24, .inl t_ladder_keys)), (a_t_ladder_weights, .inl (y 0, 24, .inl t_ladder_weights)), (a_t_ladder_towers, .inl (y 0, 24, .inl t_ladder_towers)), (a_o1, .inr (8, [.int o1_sign, .int o1_number, .int o1_weight, .int o1_rungs]))] sz) 0 0 (va_A [(a_t, .inr (4, [.ref a_t_ladder, .int t_detail, .int t_keptReason, .int t_keptDetail, .int t_keptIndex])), (a_t_ladder, .inr (7, [.ref a_t_ladder_keys, .ref a_t_ladder_weights, .ref a_t_ladder_towers, .ref a_t_ladder_coin, .int t_ladder_size, .int t_ladder_hidden])), (a_t_ladder_keys, .inl (y 0, 24, .inl t_ladder_keys)), (a_t_ladder_weights, .inl (y 0, 24, .inl t_ladder_weights)), (a_t_ladder_towers, .inl (y 0, 24, .inl t_ladder_towers)), (a_o1, .inr (8, [.int o1_sign, .int o1_number, .int o1_weight, .int o1_rungs]))] sz) := by
  refine Met.ofW (cc := cX0_reasonAgainst) (maxL := 2) (ret := (some .int)) (by decide) rfl ?_
  intro p e s m args below meth c s₁ B hml hv
  obtain ⟨hav, hsz, hP, hK, hD0⟩ := hv
  have hx := B.exec
  have hb := B.bytes
  have hr := B.returns
  have hts := atoms_spec (ws := wsX0_reasonAgainst) B.pre
  have hown : s.vm.findClass RX0 = some m.cls := findClass_of_methodNamed B.named
  have hlocks := B.notSynchronized
  subst hsz
  have hD := hD0.self (sz := s.heap.size)
  obtain ⟨A, hAe⟩ : ∃ A : Nat → Prop, va_A [(a_t, .inr (4, [.ref a_t_ladder, .int t_detail, .int t_keptReason, .int t_keptDetail, .int t_keptIndex])), (a_t_ladder, .inr (7, [.ref a_t_ladder_keys, .ref a_t_ladder_weights, .ref a_t_ladder_towers, .ref a_t_ladder_coin, .int t_ladder_size, .int t_ladder_hidden])), (a_t_ladder_keys, .inl (y 0, 24, .inl t_ladder_keys)), (a_t_ladder_weights, .inl (y 0, 24, .inl t_ladder_weights)), (a_t_ladder_towers, .inl (y 0, 24, .inl t_ladder_towers)), (a_o1, .inr (8, [.int o1_sign, .int o1_number, .int o1_weight, .int o1_rungs]))] s.heap.size = A := ⟨_, rfl⟩
  rw [hAe] at hD
  have hA : ∀ q, s.heap.size ≤ q → A q := fun q h => by rw [← hAe]; exact Or.inr h
  have hS : va_S A s.heap s.heap [] := va_S.rf
  refine W_q (R1 := (rmq 3 67)) rfl (fun Q0 hQ0 => ?_)
  unfold F_X0_reasonAgainst at hF
  refine W_entry hav (Nat.le_of_ble_eq_true rfl) (fun ls hl => ?_)
  have hl : lv_has ls 2 [(0, .ref a_t), (1, .ref a_o1)] := hl
  refine lv_aload_n hx hb dX0_reasonAgainst_0 rfl (lv_at hl 1 rfl) ?_
  obtain ⟨r_1, hq_1, hF⟩ := bn_i hF
  refine cr_V (As := []) (rest := []) ⟨hx, hb, hml, hown, hts⟩ (c_X4_sign l D y fl a_o1 o1_sign o1_number o1_weight o1_rungs r_1 hq_1) (cwV 0 hts gX0_reasonAgainst_X4_sign rfl rfl rfl (by decide +kernel) ⟨Nat.le_of_ble_eq_true rfl, Nat.le_of_ble_eq_true rfl⟩) hK hP [5] rfl rfl rfl rfl hl.1 rfl (Nat.le_of_ble_eq_true rfl) dX0_reasonAgainst_1 ⟨Nat.le_of_ble_eq_true rfl, Nat.le_of_ble_eq_true rfl⟩ ?_
  by_cases c43_4 : r_1 = (43 : Int32)
  · have hF := ift hF c43_4
    refine lv_lookup (tgt := 80) hx hb dX0_reasonAgainst_4 (by decide) (by first | (rw [c43_4]; done) | (rw [c43_4]; decide +kernel)) (by decide) ?_
    refine lv_aload_n hx hb dX0_reasonAgainst_80 rfl (lv_at hl 0 rfl) ?_
    refine lv_aload_n hx hb dX0_reasonAgainst_81 rfl (lv_at hl 1 rfl) ?_
    obtain ⟨r_82, t_detail_82, hq_82, hF⟩ := bn2_i hF
    refine cm_Vi (As := [.ref a_o1]) (rest := []) (wr := [(a_t_ladder_weights, .inl (y 0, 24, .inl t_ladder_weights)), (a_t_ladder_towers, .inl (y 0, 24, .inl t_ladder_towers))]) ⟨hx, hb, hml, hown, hts⟩ (c_X0_againstFiling l D y fl s.heap.size a_t a_t_ladder a_t_ladder_keys a_t_ladder_weights a_t_ladder_towers a_t_ladder_coin a_o1 t_detail t_keptReason t_keptDetail t_keptIndex t_ladder_size t_ladder_hidden t_ladder_keys o1_sign o1_number o1_weight o1_rungs r_82 t_detail_82 hq_82) (cwV 1 hts gX0_reasonAgainst_X0_againstFiling rfl rfl rfl (by decide +kernel) ⟨Nat.le_of_ble_eq_true rfl, Nat.le_of_ble_eq_true rfl⟩) hK hP hD hS hA [0, 1, 2, 5] [3, 4] rfl rfl rfl rfl (by decide) rfl rfl rfl hl.1 rfl (Nat.le_of_ble_eq_true rfl) dX0_reasonAgainst_82 ⟨Nat.le_of_ble_eq_true rfl, Nat.le_of_ble_eq_true rfl⟩ (fun H locs hP hD hS => ?_)
    have hP : va_P D vwCl [(a_t_ladder_weights, .inl (y 0, 24, .inl t_ladder_weights)), (a_t_ladder_towers, .inl (y 0, 24, .inl t_ladder_towers)), (a_t, .inr (4, [.ref a_t_ladder, .int t_detail_82, .int t_keptReason, .int t_keptDetail, .int t_keptIndex])), (a_t_ladder, .inr (7, [.ref a_t_ladder_keys, .ref a_t_ladder_weights, .ref a_t_ladder_towers, .ref a_t_ladder_coin, .int t_ladder_size, .int t_ladder_hidden])), (a_t_ladder_keys, .inl (y 0, 24, .inl t_ladder_keys)), (a_o1, .inr (8, [.int o1_sign, .int o1_number, .int o1_weight, .int o1_rungs]))] H := hP
    have hD : va_D A [(a_t_ladder_weights, .inl (y 0, 24, .inl t_ladder_weights)), (a_t_ladder_towers, .inl (y 0, 24, .inl t_ladder_towers)), (a_t, .inr (4, [.ref a_t_ladder, .int t_detail_82, .int t_keptReason, .int t_keptDetail, .int t_keptIndex])), (a_t_ladder, .inr (7, [.ref a_t_ladder_keys, .ref a_t_ladder_weights, .ref a_t_ladder_towers, .ref a_t_ladder_coin, .int t_ladder_size, .int t_ladder_hidden])), (a_t_ladder_keys, .inl (y 0, 24, .inl t_ladder_keys)), (a_o1, .inr (8, [.int o1_sign, .int o1_number, .int o1_weight, .int o1_rungs]))] := hD
    obtain ⟨e0_85, e1_85⟩ := inj2 hF
    rw [← e0_85, ← e1_85] at hQ0
    rw [hQ0]
    exact ret_i hx hb hr hlocks hAe hK hP hD hS [2, 3, 4, 0, 1, 5] rfl rfl dX0_reasonAgainst_85
  · have hF := iff_ hF c43_4
    by_cases c45_4 : r_1 = (45 : Int32)
    · have hF := ift hF c45_4
      refine lv_lookup (tgt := 86) hx hb dX0_reasonAgainst_4 (by decide) (by first | (rw [c45_4]; done) | (rw [c45_4]; decide +kernel)) (by decide) ?_
      refine lv_aload_n hx hb dX0_reasonAgainst_86 rfl (lv_at hl 0 rfl) ?_
      refine lv_aload_n hx hb dX0_reasonAgainst_87 rfl (lv_at hl 1 rfl) ?_
      obtain ⟨r_88, t_detail_88, hq_88, hF⟩ := bn2_i hF
      refine cm_Vi (As := [.ref a_o1]) (rest := []) (wr := []) ⟨hx, hb, hml, hown, hts⟩ (c_X0_againstFolder l D y fl s.heap.size a_t a_t_ladder a_t_ladder_keys a_t_ladder_weights a_t_ladder_towers a_t_ladder_coin a_o1 t_detail t_keptReason t_keptDetail t_keptIndex t_ladder_size t_ladder_hidden t_ladder_keys t_ladder_weights t_ladder_towers o1_sign o1_number o1_weight o1_rungs r_88 t_detail_88 hq_88) (cwV 1 hts gX0_reasonAgainst_X0_againstFolder rfl rfl rfl (by decide +kernel) ⟨Nat.le_of_ble_eq_true rfl, Nat.le_of_ble_eq_true rfl⟩) hK hP hD hS hA [0, 1, 2, 3, 4, 5] [] rfl rfl rfl rfl (by decide) rfl rfl rfl hl.1 rfl (Nat.le_of_ble_eq_true rfl) dX0_reasonAgainst_88 ⟨Nat.le_of_ble_eq_true rfl, Nat.le_of_ble_eq_true rfl⟩ (fun H locs hP hD hS => ?_)
      have hP : va_P D vwCl [(a_t, .inr (4, [.ref a_t_ladder, .int t_detail_88, .int t_keptReason, .int t_keptDetail, .int t_keptIndex])), (a_t_ladder, .inr (7, [.ref a_t_ladder_keys, .ref a_t_ladder_weights, .ref a_t_ladder_towers, .ref a_t_ladder_coin, .int t_ladder_size, .int t_ladder_hidden])), (a_t_ladder_keys, .inl (y 0, 24, .inl t_ladder_keys)), (a_t_ladder_weights, .inl (y 0, 24, .inl t_ladder_weights)), (a_t_ladder_towers, .inl (y 0, 24, .inl t_ladder_towers)), (a_o1, .inr (8, [.int o1_sign, .int o1_number, .int o1_weight, .int o1_rungs]))] H := hP
      have hD : va_D A [(a_t, .inr (4, [.ref a_t_ladder, .int t_detail_88, .int t_keptReason, .int t_keptDetail, .int t_keptIndex])), (a_t_ladder, .inr (7, [.ref a_t_ladder_keys, .ref a_t_ladder_weights, .ref a_t_ladder_towers, .ref a_t_ladder_coin, .int t_ladder_size, .int t_ladder_hidden])), (a_t_ladder_keys, .inl (y 0, 24, .inl t_ladder_keys)), (a_t_ladder_weights, .inl (y 0, 24, .inl t_ladder_weights)), (a_t_ladder_towers, .inl (y 0, 24, .inl t_ladder_towers)), (a_o1, .inr (8, [.int o1_sign, .int o1_number, .int o1_weight, .int o1_rungs]))] := hD
      obtain ⟨e0_91, e1_91⟩ := inj2 hF
      rw [← e0_91, ← e1_91] at hQ0
      rw [hQ0]
      exact ret_i hx hb hr hlocks hAe hK hP hD hS [0, 1, 2, 3, 4, 5] rfl rfl dX0_reasonAgainst_91
    · have hF := iff_ hF c45_4
      by_cases c94_4 : r_1 = (94 : Int32)
      · have hF := ift hF c94_4
        refine lv_lookup (tgt := 80) hx hb dX0_reasonAgainst_4 (by decide) (by first | (rw [c94_4]; done) | (rw [c94_4]; decide +kernel)) (by decide) ?_
        refine lv_aload_n hx hb dX0_reasonAgainst_80 rfl (lv_at hl 0 rfl) ?_
        refine lv_aload_n hx hb dX0_reasonAgainst_81 rfl (lv_at hl 1 rfl) ?_
        obtain ⟨r_82b, t_detail_82b, hq_82b, hF⟩ := bn2_i hF
        refine cm_Vi (As := [.ref a_o1]) (rest := []) (wr := [(a_t_ladder_weights, .inl (y 0, 24, .inl t_ladder_weights)), (a_t_ladder_towers, .inl (y 0, 24, .inl t_ladder_towers))]) ⟨hx, hb, hml, hown, hts⟩ (c_X0_againstFiling l D y fl s.heap.size a_t a_t_ladder a_t_ladder_keys a_t_ladder_weights a_t_ladder_towers a_t_ladder_coin a_o1 t_detail t_keptReason t_keptDetail t_keptIndex t_ladder_size t_ladder_hidden t_ladder_keys o1_sign o1_number o1_weight o1_rungs r_82b t_detail_82b hq_82b) (cwV 1 hts gX0_reasonAgainst_X0_againstFiling rfl rfl rfl (by decide +kernel) ⟨Nat.le_of_ble_eq_true rfl, Nat.le_of_ble_eq_true rfl⟩) hK hP hD hS hA [0, 1, 2, 5] [3, 4] rfl rfl rfl rfl (by decide) rfl rfl rfl hl.1 rfl (Nat.le_of_ble_eq_true rfl) dX0_reasonAgainst_82 ⟨Nat.le_of_ble_eq_true rfl, Nat.le_of_ble_eq_true rfl⟩ (fun H locs hP hD hS => ?_)
        have hP : va_P D vwCl [(a_t_ladder_weights, .inl (y 0, 24, .inl t_ladder_weights)), (a_t_ladder_towers, .inl (y 0, 24, .inl t_ladder_towers)), (a_t, .inr (4, [.ref a_t_ladder, .int t_detail_82b, .int t_keptReason, .int t_keptDetail, .int t_keptIndex])), (a_t_ladder, .inr (7, [.ref a_t_ladder_keys, .ref a_t_ladder_weights, .ref a_t_ladder_towers, .ref a_t_ladder_coin, .int t_ladder_size, .int t_ladder_hidden])), (a_t_ladder_keys, .inl (y 0, 24, .inl t_ladder_keys)), (a_o1, .inr (8, [.int o1_sign, .int o1_number, .int o1_weight, .int o1_rungs]))] H := hP
        have hD : va_D A [(a_t_ladder_weights, .inl (y 0, 24, .inl t_ladder_weights)), (a_t_ladder_towers, .inl (y 0, 24, .inl t_ladder_towers)), (a_t, .inr (4, [.ref a_t_ladder, .int t_detail_82b, .int t_keptReason, .int t_keptDetail, .int t_keptIndex])), (a_t_ladder, .inr (7, [.ref a_t_ladder_keys, .ref a_t_ladder_weights, .ref a_t_ladder_towers, .ref a_t_ladder_coin, .int t_ladder_size, .int t_ladder_hidden])), (a_t_ladder_keys, .inl (y 0, 24, .inl t_ladder_keys)), (a_o1, .inr (8, [.int o1_sign, .int o1_number, .int o1_weight, .int o1_rungs]))] := hD
        obtain ⟨e0_85, e1_85⟩ := inj2 hF
        rw [← e0_85, ← e1_85] at hQ0
        rw [hQ0]
        exact ret_i hx hb hr hlocks hAe hK hP hD hS [2, 3, 4, 0, 1, 5] rfl rfl dX0_reasonAgainst_85
      · have hF := iff_ hF c94_4
        by_cases c100_4 : r_1 = (100 : Int32)
        · have hF := ift hF c100_4
          refine lv_lookup (tgt := 86) hx hb dX0_reasonAgainst_4 (by decide) (by first | (rw [c100_4]; done) | (rw [c100_4]; decide +kernel)) (by decide) ?_
          refine lv_aload_n hx hb dX0_reasonAgainst_86 rfl (lv_at hl 0 rfl) ?_
          refine lv_aload_n hx hb dX0_reasonAgainst_87 rfl (lv_at hl 1 rfl) ?_
          obtain ⟨r_88b, t_detail_88b, hq_88b, hF⟩ := bn2_i hF
          refine cm_Vi (As := [.ref a_o1]) (rest := []) (wr := []) ⟨hx, hb, hml, hown, hts⟩ (c_X0_againstFolder l D y fl s.heap.size a_t a_t_ladder a_t_ladder_keys a_t_ladder_weights a_t_ladder_towers a_t_ladder_coin a_o1 t_detail t_keptReason t_keptDetail t_keptIndex t_ladder_size t_ladder_hidden t_ladder_keys t_ladder_weights t_ladder_towers o1_sign o1_number o1_weight o1_rungs r_88b t_detail_88b hq_88b) (cwV 1 hts gX0_reasonAgainst_X0_againstFolder rfl rfl rfl (by decide +kernel) ⟨Nat.le_of_ble_eq_true rfl, Nat.le_of_ble_eq_true rfl⟩) hK hP hD hS hA [0, 1, 2, 3, 4, 5] [] rfl rfl rfl rfl (by decide) rfl rfl rfl hl.1 rfl (Nat.le_of_ble_eq_true rfl) dX0_reasonAgainst_88 ⟨Nat.le_of_ble_eq_true rfl, Nat.le_of_ble_eq_true rfl⟩ (fun H locs hP hD hS => ?_)
          have hP : va_P D vwCl [(a_t, .inr (4, [.ref a_t_ladder, .int t_detail_88b, .int t_keptReason, .int t_keptDetail, .int t_keptIndex])), (a_t_ladder, .inr (7, [.ref a_t_ladder_keys, .ref a_t_ladder_weights, .ref a_t_ladder_towers, .ref a_t_ladder_coin, .int t_ladder_size, .int t_ladder_hidden])), (a_t_ladder_keys, .inl (y 0, 24, .inl t_ladder_keys)), (a_t_ladder_weights, .inl (y 0, 24, .inl t_ladder_weights)), (a_t_ladder_towers, .inl (y 0, 24, .inl t_ladder_towers)), (a_o1, .inr (8, [.int o1_sign, .int o1_number, .int o1_weight, .int o1_rungs]))] H := hP
          have hD : va_D A [(a_t, .inr (4, [.ref a_t_ladder, .int t_detail_88b, .int t_keptReason, .int t_keptDetail, .int t_keptIndex])), (a_t_ladder, .inr (7, [.ref a_t_ladder_keys, .ref a_t_ladder_weights, .ref a_t_ladder_towers, .ref a_t_ladder_coin, .int t_ladder_size, .int t_ladder_hidden])), (a_t_ladder_keys, .inl (y 0, 24, .inl t_ladder_keys)), (a_t_ladder_weights, .inl (y 0, 24, .inl t_ladder_weights)), (a_t_ladder_towers, .inl (y 0, 24, .inl t_ladder_towers)), (a_o1, .inr (8, [.int o1_sign, .int o1_number, .int o1_weight, .int o1_rungs]))] := hD
          obtain ⟨e0_91, e1_91⟩ := inj2 hF
          rw [← e0_91, ← e1_91] at hQ0
          rw [hQ0]
          exact ret_i hx hb hr hlocks hAe hK hP hD hS [0, 1, 2, 3, 4, 5] rfl rfl dX0_reasonAgainst_91
        · have hF := iff_ hF c100_4
          by_cases c102_4 : r_1 = (102 : Int32)
          · have hF := ift hF c102_4
            refine lv_lookup (tgt := 92) hx hb dX0_reasonAgainst_4 (by decide) (by first | (rw [c102_4]; done) | (rw [c102_4]; decide +kernel)) (by decide) ?_
            refine lv_aload_n hx hb dX0_reasonAgainst_92 rfl (lv_at hl 0 rfl) ?_
            refine lv_aload_n hx hb dX0_reasonAgainst_93 rfl (lv_at hl 1 rfl) ?_
            obtain ⟨r_94, t_detail_94, hq_94, hF⟩ := bn2_i hF
            refine cm_Vi (As := [.ref a_o1]) (rest := []) (wr := [(a_t_ladder_keys, .inl (y 0, 24, .inl t_ladder_keys)), (a_t_ladder_weights, .inl (y 0, 24, .inl t_ladder_weights)), (a_t_ladder_towers, .inl (y 0, 24, .inl t_ladder_towers))]) ⟨hx, hb, hml, hown, hts⟩ (c_X0_againstLevel l D y fl s.heap.size a_t a_t_ladder a_t_ladder_keys a_t_ladder_weights a_t_ladder_towers a_t_ladder_coin a_o1 t_detail t_keptReason t_keptDetail t_keptIndex t_ladder_size t_ladder_hidden o1_sign o1_number o1_weight o1_rungs r_94 t_detail_94 hq_94) (cwV 1 hts gX0_reasonAgainst_X0_againstLevel rfl rfl rfl (by decide +kernel) ⟨Nat.le_of_ble_eq_true rfl, Nat.le_of_ble_eq_true rfl⟩) hK hP hD hS hA [0, 1, 5] [2, 3, 4] rfl rfl rfl rfl (by decide) rfl rfl rfl hl.1 rfl (Nat.le_of_ble_eq_true rfl) dX0_reasonAgainst_94 ⟨Nat.le_of_ble_eq_true rfl, Nat.le_of_ble_eq_true rfl⟩ (fun H locs hP hD hS => ?_)
            have hP : va_P D vwCl [(a_t_ladder_keys, .inl (y 0, 24, .inl t_ladder_keys)), (a_t_ladder_weights, .inl (y 0, 24, .inl t_ladder_weights)), (a_t_ladder_towers, .inl (y 0, 24, .inl t_ladder_towers)), (a_t, .inr (4, [.ref a_t_ladder, .int t_detail_94, .int t_keptReason, .int t_keptDetail, .int t_keptIndex])), (a_t_ladder, .inr (7, [.ref a_t_ladder_keys, .ref a_t_ladder_weights, .ref a_t_ladder_towers, .ref a_t_ladder_coin, .int t_ladder_size, .int t_ladder_hidden])), (a_o1, .inr (8, [.int o1_sign, .int o1_number, .int o1_weight, .int o1_rungs]))] H := hP
            have hD : va_D A [(a_t_ladder_keys, .inl (y 0, 24, .inl t_ladder_keys)), (a_t_ladder_weights, .inl (y 0, 24, .inl t_ladder_weights)), (a_t_ladder_towers, .inl (y 0, 24, .inl t_ladder_towers)), (a_t, .inr (4, [.ref a_t_ladder, .int t_detail_94, .int t_keptReason, .int t_keptDetail, .int t_keptIndex])), (a_t_ladder, .inr (7, [.ref a_t_ladder_keys, .ref a_t_ladder_weights, .ref a_t_ladder_towers, .ref a_t_ladder_coin, .int t_ladder_size, .int t_ladder_hidden])), (a_o1, .inr (8, [.int o1_sign, .int o1_number, .int o1_weight, .int o1_rungs]))] := hD
            obtain ⟨e0_97, e1_97⟩ := inj2 hF
            rw [← e0_97, ← e1_97] at hQ0
            rw [hQ0]
            exact ret_i hx hb hr hlocks hAe hK hP hD hS [3, 4, 0, 1, 2, 5] rfl rfl dX0_reasonAgainst_97
          · have hF := iff_ hF c102_4
            by_cases c114_4 : r_1 = (114 : Int32)
            · have hF := ift hF c114_4
              refine lv_lookup (tgt := 92) hx hb dX0_reasonAgainst_4 (by decide) (by first | (rw [c114_4]; done) | (rw [c114_4]; decide +kernel)) (by decide) ?_
              refine lv_aload_n hx hb dX0_reasonAgainst_92 rfl (lv_at hl 0 rfl) ?_
              refine lv_aload_n hx hb dX0_reasonAgainst_93 rfl (lv_at hl 1 rfl) ?_
              obtain ⟨r_94b, t_detail_94b, hq_94b, hF⟩ := bn2_i hF
              refine cm_Vi (As := [.ref a_o1]) (rest := []) (wr := [(a_t_ladder_keys, .inl (y 0, 24, .inl t_ladder_keys)), (a_t_ladder_weights, .inl (y 0, 24, .inl t_ladder_weights)), (a_t_ladder_towers, .inl (y 0, 24, .inl t_ladder_towers))]) ⟨hx, hb, hml, hown, hts⟩ (c_X0_againstLevel l D y fl s.heap.size a_t a_t_ladder a_t_ladder_keys a_t_ladder_weights a_t_ladder_towers a_t_ladder_coin a_o1 t_detail t_keptReason t_keptDetail t_keptIndex t_ladder_size t_ladder_hidden o1_sign o1_number o1_weight o1_rungs r_94b t_detail_94b hq_94b) (cwV 1 hts gX0_reasonAgainst_X0_againstLevel rfl rfl rfl (by decide +kernel) ⟨Nat.le_of_ble_eq_true rfl, Nat.le_of_ble_eq_true rfl⟩) hK hP hD hS hA [0, 1, 5] [2, 3, 4] rfl rfl rfl rfl (by decide) rfl rfl rfl hl.1 rfl (Nat.le_of_ble_eq_true rfl) dX0_reasonAgainst_94 ⟨Nat.le_of_ble_eq_true rfl, Nat.le_of_ble_eq_true rfl⟩ (fun H locs hP hD hS => ?_)
              have hP : va_P D vwCl [(a_t_ladder_keys, .inl (y 0, 24, .inl t_ladder_keys)), (a_t_ladder_weights, .inl (y 0, 24, .inl t_ladder_weights)), (a_t_ladder_towers, .inl (y 0, 24, .inl t_ladder_towers)), (a_t, .inr (4, [.ref a_t_ladder, .int t_detail_94b, .int t_keptReason, .int t_keptDetail, .int t_keptIndex])), (a_t_ladder, .inr (7, [.ref a_t_ladder_keys, .ref a_t_ladder_weights, .ref a_t_ladder_towers, .ref a_t_ladder_coin, .int t_ladder_size, .int t_ladder_hidden])), (a_o1, .inr (8, [.int o1_sign, .int o1_number, .int o1_weight, .int o1_rungs]))] H := hP
              have hD : va_D A [(a_t_ladder_keys, .inl (y 0, 24, .inl t_ladder_keys)), (a_t_ladder_weights, .inl (y 0, 24, .inl t_ladder_weights)), (a_t_ladder_towers, .inl (y 0, 24, .inl t_ladder_towers)), (a_t, .inr (4, [.ref a_t_ladder, .int t_detail_94b, .int t_keptReason, .int t_keptDetail, .int t_keptIndex])), (a_t_ladder, .inr (7, [.ref a_t_ladder_keys, .ref a_t_ladder_weights, .ref a_t_ladder_towers, .ref a_t_ladder_coin, .int t_ladder_size, .int t_ladder_hidden])), (a_o1, .inr (8, [.int o1_sign, .int o1_number, .int o1_weight, .int o1_rungs]))] := hD
              obtain ⟨e0_97, e1_97⟩ := inj2 hF
              rw [← e0_97, ← e1_97] at hQ0
              rw [hQ0]
              exact ret_i hx hb hr hlocks hAe hK hP hD hS [3, 4, 0, 1, 2, 5] rfl rfl dX0_reasonAgainst_97
            · have hF := iff_ hF c114_4
              by_cases c117_4 : r_1 = (117 : Int32)
              · have hF := ift hF c117_4
                refine lv_lookup (tgt := 86) hx hb dX0_reasonAgainst_4 (by decide) (by first | (rw [c117_4]; done) | (rw [c117_4]; decide +kernel)) (by decide) ?_
                refine lv_aload_n hx hb dX0_reasonAgainst_86 rfl (lv_at hl 0 rfl) ?_
                refine lv_aload_n hx hb dX0_reasonAgainst_87 rfl (lv_at hl 1 rfl) ?_
                obtain ⟨r_88bb, t_detail_88bb, hq_88bb, hF⟩ := bn2_i hF
                refine cm_Vi (As := [.ref a_o1]) (rest := []) (wr := []) ⟨hx, hb, hml, hown, hts⟩ (c_X0_againstFolder l D y fl s.heap.size a_t a_t_ladder a_t_ladder_keys a_t_ladder_weights a_t_ladder_towers a_t_ladder_coin a_o1 t_detail t_keptReason t_keptDetail t_keptIndex t_ladder_size t_ladder_hidden t_ladder_keys t_ladder_weights t_ladder_towers o1_sign o1_number o1_weight o1_rungs r_88bb t_detail_88bb hq_88bb) (cwV 1 hts gX0_reasonAgainst_X0_againstFolder rfl rfl rfl (by decide +kernel) ⟨Nat.le_of_ble_eq_true rfl, Nat.le_of_ble_eq_true rfl⟩) hK hP hD hS hA [0, 1, 2, 3, 4, 5] [] rfl rfl rfl rfl (by decide) rfl rfl rfl hl.1 rfl (Nat.le_of_ble_eq_true rfl) dX0_reasonAgainst_88 ⟨Nat.le_of_ble_eq_true rfl, Nat.le_of_ble_eq_true rfl⟩ (fun H locs hP hD hS => ?_)
                have hP : va_P D vwCl [(a_t, .inr (4, [.ref a_t_ladder, .int t_detail_88bb, .int t_keptReason, .int t_keptDetail, .int t_keptIndex])), (a_t_ladder, .inr (7, [.ref a_t_ladder_keys, .ref a_t_ladder_weights, .ref a_t_ladder_towers, .ref a_t_ladder_coin, .int t_ladder_size, .int t_ladder_hidden])), (a_t_ladder_keys, .inl (y 0, 24, .inl t_ladder_keys)), (a_t_ladder_weights, .inl (y 0, 24, .inl t_ladder_weights)), (a_t_ladder_towers, .inl (y 0, 24, .inl t_ladder_towers)), (a_o1, .inr (8, [.int o1_sign, .int o1_number, .int o1_weight, .int o1_rungs]))] H := hP
                have hD : va_D A [(a_t, .inr (4, [.ref a_t_ladder, .int t_detail_88bb, .int t_keptReason, .int t_keptDetail, .int t_keptIndex])), (a_t_ladder, .inr (7, [.ref a_t_ladder_keys, .ref a_t_ladder_weights, .ref a_t_ladder_towers, .ref a_t_ladder_coin, .int t_ladder_size, .int t_ladder_hidden])), (a_t_ladder_keys, .inl (y 0, 24, .inl t_ladder_keys)), (a_t_ladder_weights, .inl (y 0, 24, .inl t_ladder_weights)), (a_t_ladder_towers, .inl (y 0, 24, .inl t_ladder_towers)), (a_o1, .inr (8, [.int o1_sign, .int o1_number, .int o1_weight, .int o1_rungs]))] := hD
                obtain ⟨e0_91, e1_91⟩ := inj2 hF
                rw [← e0_91, ← e1_91] at hQ0
                rw [hQ0]
                exact ret_i hx hb hr hlocks hAe hK hP hD hS [0, 1, 2, 3, 4, 5] rfl rfl dX0_reasonAgainst_91
              · have hF := iff_ hF c117_4
                by_cases c119_4 : r_1 = (119 : Int32)
                · have hF := ift hF c119_4
                  refine lv_lookup (tgt := 86) hx hb dX0_reasonAgainst_4 (by decide) (by first | (rw [c119_4]; done) | (rw [c119_4]; decide +kernel)) (by decide) ?_
                  refine lv_aload_n hx hb dX0_reasonAgainst_86 rfl (lv_at hl 0 rfl) ?_
                  refine lv_aload_n hx hb dX0_reasonAgainst_87 rfl (lv_at hl 1 rfl) ?_
                  obtain ⟨r_88bbb, t_detail_88bbb, hq_88bbb, hF⟩ := bn2_i hF
                  refine cm_Vi (As := [.ref a_o1]) (rest := []) (wr := []) ⟨hx, hb, hml, hown, hts⟩ (c_X0_againstFolder l D y fl s.heap.size a_t a_t_ladder a_t_ladder_keys a_t_ladder_weights a_t_ladder_towers a_t_ladder_coin a_o1 t_detail t_keptReason t_keptDetail t_keptIndex t_ladder_size t_ladder_hidden t_ladder_keys t_ladder_weights t_ladder_towers o1_sign o1_number o1_weight o1_rungs r_88bbb t_detail_88bbb hq_88bbb) (cwV 1 hts gX0_reasonAgainst_X0_againstFolder rfl rfl rfl (by decide +kernel) ⟨Nat.le_of_ble_eq_true rfl, Nat.le_of_ble_eq_true rfl⟩) hK hP hD hS hA [0, 1, 2, 3, 4, 5] [] rfl rfl rfl rfl (by decide) rfl rfl rfl hl.1 rfl (Nat.le_of_ble_eq_true rfl) dX0_reasonAgainst_88 ⟨Nat.le_of_ble_eq_true rfl, Nat.le_of_ble_eq_true rfl⟩ (fun H locs hP hD hS => ?_)
                  have hP : va_P D vwCl [(a_t, .inr (4, [.ref a_t_ladder, .int t_detail_88bbb, .int t_keptReason, .int t_keptDetail, .int t_keptIndex])), (a_t_ladder, .inr (7, [.ref a_t_ladder_keys, .ref a_t_ladder_weights, .ref a_t_ladder_towers, .ref a_t_ladder_coin, .int t_ladder_size, .int t_ladder_hidden])), (a_t_ladder_keys, .inl (y 0, 24, .inl t_ladder_keys)), (a_t_ladder_weights, .inl (y 0, 24, .inl t_ladder_weights)), (a_t_ladder_towers, .inl (y 0, 24, .inl t_ladder_towers)), (a_o1, .inr (8, [.int o1_sign, .int o1_number, .int o1_weight, .int o1_rungs]))] H := hP
                  have hD : va_D A [(a_t, .inr (4, [.ref a_t_ladder, .int t_detail_88bbb, .int t_keptReason, .int t_keptDetail, .int t_keptIndex])), (a_t_ladder, .inr (7, [.ref a_t_ladder_keys, .ref a_t_ladder_weights, .ref a_t_ladder_towers, .ref a_t_ladder_coin, .int t_ladder_size, .int t_ladder_hidden])), (a_t_ladder_keys, .inl (y 0, 24, .inl t_ladder_keys)), (a_t_ladder_weights, .inl (y 0, 24, .inl t_ladder_weights)), (a_t_ladder_towers, .inl (y 0, 24, .inl t_ladder_towers)), (a_o1, .inr (8, [.int o1_sign, .int o1_number, .int o1_weight, .int o1_rungs]))] := hD
                  obtain ⟨e0_91, e1_91⟩ := inj2 hF
                  rw [← e0_91, ← e1_91] at hQ0
                  rw [hQ0]
                  exact ret_i hx hb hr hlocks hAe hK hP hD hS [0, 1, 2, 3, 4, 5] rfl rfl dX0_reasonAgainst_91
                · have hF := iff_ hF c119_4
                  refine lv_lookup (tgt := 98) (off := 94) hx hb dX0_reasonAgainst_4 (by decide) (by refine (lv_osw c43_4 (by decide)).trans ?_; refine (lv_osw c45_4 (by decide)).trans ?_; refine (lv_osw c94_4 (by decide)).trans ?_; refine (lv_osw c100_4 (by decide)).trans ?_; refine (lv_osw c102_4 (by decide)).trans ?_; refine (lv_osw c114_4 (by decide)).trans ?_; refine (lv_osw c117_4 (by decide)).trans ?_; refine (lv_osw c119_4 (by decide)).trans ?_; rfl) (by decide) ?_
                  refine lv_iconst (v := 0) hx hb dX0_reasonAgainst_98 (by decide) ?_
                  obtain ⟨e0_99, e1_99⟩ := inj2 hF
                  rw [← e0_99, ← e1_99] at hQ0
                  rw [hQ0]
                  exact ret_i hx hb hr hlocks hAe hK hP hD hS [0, 1, 2, 3, 4, 5] rfl rfl dX0_reasonAgainst_99
def F_X0_refuses (fl : Nat) (t_detail : Int32) (t_keptReason : Int32) (t_keptDetail : Int32) (t_keptIndex : Int32) (t_ladder_size : Int32) (t_ladder_hidden : Int32) (t_ladder_keys : Nat → Int32) (t_ladder_weights : Nat → Int32) (t_ladder_towers : Nat → Int32) (o1_sign : Int32) (o1_number : Int32) (o1_weight : Int32) (o1_rungs : Int32) (p2 : Int32) : Option (Int32 × Int32 × Int32 × Int32 × Int32) := bn2 (F_X0_reasonAgainst fl (0 : Int32) t_ladder_size t_ladder_hidden t_ladder_keys t_ladder_weights t_ladder_towers o1_sign o1_number o1_weight o1_rungs) fun r_7 t_detail_7 => if r_7 = 0 then (some ((0 : Int32), t_detail_7, t_keptReason, t_keptDetail, t_keptIndex)) else (some ((1 : Int32), t_detail_7, r_7, t_detail_7, p2))
theorem iX0_refuses_X0 : ∀ w ∈ u_ws RX0 TX0 5, w ∈ wsX0_refuses := fun w h => List.mem_cons_of_mem _ (List.mem_append_left _ (List.mem_append_left _ (List.mem_append_left _ (List.mem_append_right _ h))))
set_option maxHeartbeats 4000000 in
set_option maxRecDepth 100000 in
theorem c_X0_refuses (l : Launch) (D : va_G) (y : Nat → ClassId) (fl : Nat) (sz : Nat) (a_t : Nat) (a_t_ladder : Nat) (a_t_ladder_keys : Nat) (a_t_ladder_weights : Nat) (a_t_ladder_towers : Nat) (a_t_ladder_coin : Nat) (a_o1 : Nat) (t_detail : Int32) (t_keptReason : Int32) (t_keptDetail : Int32) (t_keptIndex : Int32) (t_ladder_size : Int32) (t_ladder_hidden : Int32) (t_ladder_keys : Nat → Int32) (t_ladder_weights : Nat → Int32) (t_ladder_towers : Nat → Int32) (o1_sign : Int32) (o1_number : Int32) (o1_weight : Int32) (o1_rungs : Int32) (p2 : Int32) (r : Int32) (t_detail' : Int32) (t_keptReason' : Int32) (t_keptDetail' : Int32) (t_keptIndex' : Int32) (hF : F_X0_refuses fl t_detail t_keptReason t_keptDetail t_keptIndex t_ladder_size t_ladder_hidden t_ladder_keys t_ladder_weights t_ladder_towers o1_sign o1_number o1_weight o1_rungs p2 = some (r, t_detail', t_keptReason', t_keptDetail', t_keptIndex')) : Met l yX0_refuses wsX0_refuses (rmq 4 88) (wrP D y [(a_t, .inr (4, [.ref a_t_ladder, .int t_detail, .int t_keptReason, .int t_keptDetail, .int t_keptIndex])), (a_t_ladder, .inr (7, [.ref a_t_ladder_keys, .ref a_t_ladder_weights, .ref a_t_ladder_towers, .ref a_t_ladder_coin, .int t_ladder_size, .int t_ladder_hidden])), (a_t_ladder_keys, .inl (y 0, 24, .inl t_ladder_keys)), (a_t_ladder_weights, .inl (y 0, 24, .inl t_ladder_weights)), (a_t_ladder_towers, .inl (y 0, 24, .inl t_ladder_towers)), (a_o1, .inr (8, [.int o1_sign, .int o1_number, .int o1_weight, .int o1_rungs]))] sz [.ref a_t, .ref a_o1, .int p2]) (wQi D y r [(a_t, .inr (4, [.ref a_t_ladder, .int t_detail', .int t_keptReason', .int t_keptDetail', .int t_keptIndex'])), (a_t_ladder, .inr (7, [.ref a_t_ladder_keys, .ref a_t_ladder_weights, .ref a_t_ladder_towers, .ref a_t_ladder_coin, .int t_ladder_size, .int t_ladder_hidden])), (a_t_ladder_keys, .inl (y 0, 24, .inl t_ladder_keys)), (a_t_ladder_weights, .inl (y 0, 24, .inl t_ladder_weights)), (a_t_ladder_towers, .inl (y 0, 24, .inl t_ladder_towers)), (a_o1, .inr (8, [.int o1_sign, .int o1_number, .int o1_weight, .int o1_rungs]))] [(a_t, .inr (4, [.ref a_t_ladder, .int t_detail, .int t_keptReason, .int t_keptDetail, .int t_keptIndex])), (a_t_ladder, .inr (7, [.ref a_t_ladder_keys, .ref a_t_ladder_weights, .ref a_t_ladder_towers, .ref a_t_ladder_coin, .int t_ladder_size, .int t_ladder_hidden])), (a_t_ladder_keys, .inl (y 0, 24, .inl t_ladder_keys)), (a_t_ladder_weights, .inl (y 0, 24, .inl t_ladder_weights)), (a_t_ladder_towers, .inl (y 0, 24, .inl t_ladder_towers)), (a_o1, .inr (8, [.int o1_sign, .int o1_number, .int o1_weight, .int o1_rungs]))] sz) 0 0 (va_A [(a_t, .inr (4, [.ref a_t_ladder, .int t_detail, .int t_keptReason, .int t_keptDetail, .int t_keptIndex])), (a_t_ladder, .inr (7, [.ref a_t_ladder_keys, .ref a_t_ladder_weights, .ref a_t_ladder_towers, .ref a_t_ladder_coin, .int t_ladder_size, .int t_ladder_hidden])), (a_t_ladder_keys, .inl (y 0, 24, .inl t_ladder_keys)), (a_t_ladder_weights, .inl (y 0, 24, .inl t_ladder_weights)), (a_t_ladder_towers, .inl (y 0, 24, .inl t_ladder_towers)), (a_o1, .inr (8, [.int o1_sign, .int o1_number, .int o1_weight, .int o1_rungs]))] sz) := by
  refine Met.ofW (cc := cX0_refuses) (maxL := 4) (ret := (some .boolean)) (by decide) rfl ?_
  intro p e s m args below meth c s₁ B hml hv
  obtain ⟨hav, hsz, hP, hK, hD0⟩ := hv
  have hx := B.exec
  have hb := B.bytes
  have hr := B.returns
  have hts := atoms_spec (ws := wsX0_refuses) B.pre
  have hown : s.vm.findClass RX0 = some m.cls := findClass_of_methodNamed B.named
  have hlocks := B.notSynchronized
  subst hsz
  have hD := hD0.self (sz := s.heap.size)
  obtain ⟨A, hAe⟩ : ∃ A : Nat → Prop, va_A [(a_t, .inr (4, [.ref a_t_ladder, .int t_detail, .int t_keptReason, .int t_keptDetail, .int t_keptIndex])), (a_t_ladder, .inr (7, [.ref a_t_ladder_keys, .ref a_t_ladder_weights, .ref a_t_ladder_towers, .ref a_t_ladder_coin, .int t_ladder_size, .int t_ladder_hidden])), (a_t_ladder_keys, .inl (y 0, 24, .inl t_ladder_keys)), (a_t_ladder_weights, .inl (y 0, 24, .inl t_ladder_weights)), (a_t_ladder_towers, .inl (y 0, 24, .inl t_ladder_towers)), (a_o1, .inr (8, [.int o1_sign, .int o1_number, .int o1_weight, .int o1_rungs]))] s.heap.size = A := ⟨_, rfl⟩
  rw [hAe] at hD
  have hA : ∀ q, s.heap.size ≤ q → A q := fun q h => by rw [← hAe]; exact Or.inr h
  have hS : va_S A s.heap s.heap [] := va_S.rf
  refine W_q (R1 := (rmq 4 88)) rfl (fun Q0 hQ0 => ?_)
  unfold F_X0_refuses at hF
  refine W_entry hav (Nat.le_of_ble_eq_true rfl) (fun ls hl => ?_)
  have hl : lv_has ls 4 [(0, .ref a_t), (1, .ref a_o1), (2, .int p2)] := hl
  refine lv_aload_n hx hb dX0_refuses_0 rfl (lv_at hl 0 rfl) ?_
  refine lv_iconst (v := 0) hx hb dX0_refuses_1 (by decide) ?_
  refine va_put (D := D) (ci := 4) (v := .int (0 : Int32)) (ty := .int) (C := RX0) (T := TX0) (N := 5) hx hb hts iX0_refuses_X0 tyX0 tyX0_ok nmX0 hown hK hP hD hS 0 rfl rfl 1 (by decide) (hts (.fieldLink RX0 9 "SkipArchive$Clerk" "detail" "I") (List.mem_of_getElem? (i := 1) rfl)) (fun _ h9 => h9) rfl (by decide +kernel) rfl rfl (Nat.le_of_ble_eq_true rfl) dX0_refuses_2 (fun H locs hP hD hS => ?_)
  have hP : va_P D vwCl [(a_t, .inr (4, [.ref a_t_ladder, .int (0 : Int32), .int t_keptReason, .int t_keptDetail, .int t_keptIndex])), (a_t_ladder, .inr (7, [.ref a_t_ladder_keys, .ref a_t_ladder_weights, .ref a_t_ladder_towers, .ref a_t_ladder_coin, .int t_ladder_size, .int t_ladder_hidden])), (a_t_ladder_keys, .inl (y 0, 24, .inl t_ladder_keys)), (a_t_ladder_weights, .inl (y 0, 24, .inl t_ladder_weights)), (a_t_ladder_towers, .inl (y 0, 24, .inl t_ladder_towers)), (a_o1, .inr (8, [.int o1_sign, .int o1_number, .int o1_weight, .int o1_rungs]))] H := hP
  have hD : va_D A [(a_t, .inr (4, [.ref a_t_ladder, .int (0 : Int32), .int t_keptReason, .int t_keptDetail, .int t_keptIndex])), (a_t_ladder, .inr (7, [.ref a_t_ladder_keys, .ref a_t_ladder_weights, .ref a_t_ladder_towers, .ref a_t_ladder_coin, .int t_ladder_size, .int t_ladder_hidden])), (a_t_ladder_keys, .inl (y 0, 24, .inl t_ladder_keys)), (a_t_ladder_weights, .inl (y 0, 24, .inl t_ladder_weights)), (a_t_ladder_towers, .inl (y 0, 24, .inl t_ladder_towers)), (a_o1, .inr (8, [.int o1_sign, .int o1_number, .int o1_weight, .int o1_rungs]))] := hD
  refine lv_aload_n hx hb dX0_refuses_5 rfl (lv_at hl 0 rfl) ?_
  refine lv_aload_n hx hb dX0_refuses_6 rfl (lv_at hl 1 rfl) ?_
  obtain ⟨r_7, t_detail_7, hq_7, hF⟩ := bn2_i hF
  refine cm_Vi (As := [.ref a_o1]) (rest := []) (wr := []) ⟨hx, hb, hml, hown, hts⟩ (c_X0_reasonAgainst l D y fl H.size a_t a_t_ladder a_t_ladder_keys a_t_ladder_weights a_t_ladder_towers a_t_ladder_coin a_o1 (0 : Int32) t_keptReason t_keptDetail t_keptIndex t_ladder_size t_ladder_hidden t_ladder_keys t_ladder_weights t_ladder_towers o1_sign o1_number o1_weight o1_rungs r_7 t_detail_7 hq_7) (cwV 1 hts gX0_refuses_X0_reasonAgainst rfl rfl rfl (by decide +kernel) ⟨Nat.le_of_ble_eq_true rfl, Nat.le_of_ble_eq_true rfl⟩) hK hP hD hS hA [0, 1, 2, 3, 4, 5] [] rfl rfl rfl rfl (by decide) rfl rfl rfl hl.1 rfl (Nat.le_of_ble_eq_true rfl) dX0_refuses_7 ⟨Nat.le_of_ble_eq_true rfl, Nat.le_of_ble_eq_true rfl⟩ (fun H locs hP hD hS => ?_)
  have hP : va_P D vwCl [(a_t, .inr (4, [.ref a_t_ladder, .int t_detail_7, .int t_keptReason, .int t_keptDetail, .int t_keptIndex])), (a_t_ladder, .inr (7, [.ref a_t_ladder_keys, .ref a_t_ladder_weights, .ref a_t_ladder_towers, .ref a_t_ladder_coin, .int t_ladder_size, .int t_ladder_hidden])), (a_t_ladder_keys, .inl (y 0, 24, .inl t_ladder_keys)), (a_t_ladder_weights, .inl (y 0, 24, .inl t_ladder_weights)), (a_t_ladder_towers, .inl (y 0, 24, .inl t_ladder_towers)), (a_o1, .inr (8, [.int o1_sign, .int o1_number, .int o1_weight, .int o1_rungs]))] H := hP
  have hD : va_D A [(a_t, .inr (4, [.ref a_t_ladder, .int t_detail_7, .int t_keptReason, .int t_keptDetail, .int t_keptIndex])), (a_t_ladder, .inr (7, [.ref a_t_ladder_keys, .ref a_t_ladder_weights, .ref a_t_ladder_towers, .ref a_t_ladder_coin, .int t_ladder_size, .int t_ladder_hidden])), (a_t_ladder_keys, .inl (y 0, 24, .inl t_ladder_keys)), (a_t_ladder_weights, .inl (y 0, 24, .inl t_ladder_weights)), (a_t_ladder_towers, .inl (y 0, 24, .inl t_ladder_towers)), (a_o1, .inr (8, [.int o1_sign, .int o1_number, .int o1_weight, .int o1_rungs]))] := hD
  refine lv_istore_n (lv' := [(3, .int r_7), (0, .ref a_t), (1, .ref a_o1), (2, .int p2)]) hx hb dX0_refuses_10 rfl hl (by decide) rfl (fun ls hl => ?_)
  refine lv_iload_n hx hb dX0_refuses_11 rfl (lv_at hl 0 rfl) ?_
  refine lv_if_ne (tgt := 17) hx hb dX0_refuses_12 (by decide) (fun c_12 => ?_) (fun c_12 => ?_)
  · have hF := iff_ hF c_12
    refine lv_aload_n hx hb dX0_refuses_17 rfl (lv_at hl 1 rfl) ?_
    refine lv_iload_n hx hb dX0_refuses_18 rfl (lv_at hl 0 rfl) ?_
    refine va_put (D := D) (ci := 4) (v := .int r_7) (ty := .int) (C := RX0) (T := TX0) (N := 5) hx hb hts iX0_refuses_X0 tyX0 tyX0_ok nmX0 hown hK hP hD hS 0 rfl rfl 2 (by decide) (hts (.fieldLink RX0 15 "SkipArchive$Clerk" "keptReason" "I") (List.mem_of_getElem? (i := 2) rfl)) (fun _ h9 => h9) rfl (by decide +kernel) rfl rfl (Nat.le_of_ble_eq_true rfl) dX0_refuses_19 (fun H locs hP hD hS => ?_)
    have hP : va_P D vwCl [(a_t, .inr (4, [.ref a_t_ladder, .int t_detail_7, .int r_7, .int t_keptDetail, .int t_keptIndex])), (a_t_ladder, .inr (7, [.ref a_t_ladder_keys, .ref a_t_ladder_weights, .ref a_t_ladder_towers, .ref a_t_ladder_coin, .int t_ladder_size, .int t_ladder_hidden])), (a_t_ladder_keys, .inl (y 0, 24, .inl t_ladder_keys)), (a_t_ladder_weights, .inl (y 0, 24, .inl t_ladder_weights)), (a_t_ladder_towers, .inl (y 0, 24, .inl t_ladder_towers)), (a_o1, .inr (8, [.int o1_sign, .int o1_number, .int o1_weight, .int o1_rungs]))] H := hP
    have hD : va_D A [(a_t, .inr (4, [.ref a_t_ladder, .int t_detail_7, .int r_7, .int t_keptDetail, .int t_keptIndex])), (a_t_ladder, .inr (7, [.ref a_t_ladder_keys, .ref a_t_ladder_weights, .ref a_t_ladder_towers, .ref a_t_ladder_coin, .int t_ladder_size, .int t_ladder_hidden])), (a_t_ladder_keys, .inl (y 0, 24, .inl t_ladder_keys)), (a_t_ladder_weights, .inl (y 0, 24, .inl t_ladder_weights)), (a_t_ladder_towers, .inl (y 0, 24, .inl t_ladder_towers)), (a_o1, .inr (8, [.int o1_sign, .int o1_number, .int o1_weight, .int o1_rungs]))] := hD
    refine lv_aload_n hx hb dX0_refuses_22 rfl (lv_at hl 1 rfl) ?_
    refine lv_aload_n hx hb dX0_refuses_23 rfl (lv_at hl 1 rfl) ?_
    refine va_get (D := D) (ci := 4) (v := .int t_detail_7) (C := RX0) (T := TX0) (N := 5) hx hb hts iX0_refuses_X0 hown hK hP 0 rfl rfl 1 (by decide) (hts (.fieldLink RX0 9 "SkipArchive$Clerk" "detail" "I") (List.mem_of_getElem? (i := 1) rfl)) (fun _ h9 => h9) rfl dX0_refuses_24 ?_
    refine va_put (D := D) (ci := 4) (v := .int t_detail_7) (ty := .int) (C := RX0) (T := TX0) (N := 5) hx hb hts iX0_refuses_X0 tyX0 tyX0_ok nmX0 hown hK hP hD hS 0 rfl rfl 3 (by decide) (hts (.fieldLink RX0 18 "SkipArchive$Clerk" "keptDetail" "I") (List.mem_of_getElem? (i := 3) rfl)) (fun _ h9 => h9) rfl (by decide +kernel) rfl rfl (Nat.le_of_ble_eq_true rfl) dX0_refuses_27 (fun H locs hP hD hS => ?_)
    have hP : va_P D vwCl [(a_t, .inr (4, [.ref a_t_ladder, .int t_detail_7, .int r_7, .int t_detail_7, .int t_keptIndex])), (a_t_ladder, .inr (7, [.ref a_t_ladder_keys, .ref a_t_ladder_weights, .ref a_t_ladder_towers, .ref a_t_ladder_coin, .int t_ladder_size, .int t_ladder_hidden])), (a_t_ladder_keys, .inl (y 0, 24, .inl t_ladder_keys)), (a_t_ladder_weights, .inl (y 0, 24, .inl t_ladder_weights)), (a_t_ladder_towers, .inl (y 0, 24, .inl t_ladder_towers)), (a_o1, .inr (8, [.int o1_sign, .int o1_number, .int o1_weight, .int o1_rungs]))] H := hP
    have hD : va_D A [(a_t, .inr (4, [.ref a_t_ladder, .int t_detail_7, .int r_7, .int t_detail_7, .int t_keptIndex])), (a_t_ladder, .inr (7, [.ref a_t_ladder_keys, .ref a_t_ladder_weights, .ref a_t_ladder_towers, .ref a_t_ladder_coin, .int t_ladder_size, .int t_ladder_hidden])), (a_t_ladder_keys, .inl (y 0, 24, .inl t_ladder_keys)), (a_t_ladder_weights, .inl (y 0, 24, .inl t_ladder_weights)), (a_t_ladder_towers, .inl (y 0, 24, .inl t_ladder_towers)), (a_o1, .inr (8, [.int o1_sign, .int o1_number, .int o1_weight, .int o1_rungs]))] := hD
    refine lv_aload_n hx hb dX0_refuses_30 rfl (lv_at hl 1 rfl) ?_
    refine lv_iload_n hx hb dX0_refuses_31 rfl (lv_at hl 3 rfl) ?_
    refine va_put (D := D) (ci := 4) (v := .int p2) (ty := .int) (C := RX0) (T := TX0) (N := 5) hx hb hts iX0_refuses_X0 tyX0 tyX0_ok nmX0 hown hK hP hD hS 0 rfl rfl 4 (by decide) (hts (.fieldLink RX0 21 "SkipArchive$Clerk" "keptIndex" "I") (List.mem_of_getElem? (i := 4) rfl)) (fun _ h9 => h9) rfl (by decide +kernel) rfl rfl (Nat.le_of_ble_eq_true rfl) dX0_refuses_32 (fun H locs hP hD hS => ?_)
    have hP : va_P D vwCl [(a_t, .inr (4, [.ref a_t_ladder, .int t_detail_7, .int r_7, .int t_detail_7, .int p2])), (a_t_ladder, .inr (7, [.ref a_t_ladder_keys, .ref a_t_ladder_weights, .ref a_t_ladder_towers, .ref a_t_ladder_coin, .int t_ladder_size, .int t_ladder_hidden])), (a_t_ladder_keys, .inl (y 0, 24, .inl t_ladder_keys)), (a_t_ladder_weights, .inl (y 0, 24, .inl t_ladder_weights)), (a_t_ladder_towers, .inl (y 0, 24, .inl t_ladder_towers)), (a_o1, .inr (8, [.int o1_sign, .int o1_number, .int o1_weight, .int o1_rungs]))] H := hP
    have hD : va_D A [(a_t, .inr (4, [.ref a_t_ladder, .int t_detail_7, .int r_7, .int t_detail_7, .int p2])), (a_t_ladder, .inr (7, [.ref a_t_ladder_keys, .ref a_t_ladder_weights, .ref a_t_ladder_towers, .ref a_t_ladder_coin, .int t_ladder_size, .int t_ladder_hidden])), (a_t_ladder_keys, .inl (y 0, 24, .inl t_ladder_keys)), (a_t_ladder_weights, .inl (y 0, 24, .inl t_ladder_weights)), (a_t_ladder_towers, .inl (y 0, 24, .inl t_ladder_towers)), (a_o1, .inr (8, [.int o1_sign, .int o1_number, .int o1_weight, .int o1_rungs]))] := hD
    refine lv_iconst (v := 1) hx hb dX0_refuses_35 (by decide) ?_
    obtain ⟨e0_36, e1_36, e2_36, e3_36, e4_36⟩ := inj5 hF
    rw [← e0_36, ← e1_36, ← e2_36, ← e3_36, ← e4_36] at hQ0
    rw [hQ0]
    exact ret_z hx hb hr (by decide +kernel) hlocks hAe hK hP hD hS [0, 1, 2, 3, 4, 5] rfl rfl dX0_refuses_36
  · have hF := ift hF c_12
    refine lv_iconst (v := 0) hx hb dX0_refuses_15 (by decide) ?_
    obtain ⟨e0_16, e1_16, e2_16, e3_16, e4_16⟩ := inj5 hF
    rw [← e0_16, ← e1_16, ← e2_16, ← e3_16, ← e4_16] at hQ0
    rw [hQ0]
    exact ret_z hx hb hr (by decide +kernel) hlocks hAe hK hP hD hS [0, 1, 2, 3, 4, 5] rfl rfl dX0_refuses_16
def F_X0_insertByCoins (fl : Nat) (t_ladder_size : Int32) (t_ladder_keys : Nat → Int32) (t_ladder_weights : Nat → Int32) (t_ladder_towers : Nat → Int32) (t_ladder_coin_number : Int32) (t_ladder_coin_tossed : Int32) (t_ladder_coin_heads : Int32) (o1_number : Int32) (o1_weight : Int32) : Option (Int32 × Int32 × (Nat → Int32) × (Nat → Int32) × (Nat → Int32) × Int32 × Int32 × Int32) := bn (F_X3_coin fl) fun _ => bn4 (F_X1_throwTower fl t_ladder_coin_number t_ladder_coin_tossed t_ladder_coin_heads) fun r_7 t_ladder_coin_number_7 t_ladder_coin_tossed_7 t_ladder_coin_heads_7 => bn (F_X4_number fl o1_number) fun r_16 => bn (F_X4_weight fl o1_weight) fun r_20 => bn4 (F_X3_insert fl t_ladder_size t_ladder_keys t_ladder_weights t_ladder_towers r_16 r_20 r_7) fun t_ladder_size_24 t_ladder_keys_24 t_ladder_weights_24 t_ladder_towers_24 => some (r_7, t_ladder_size_24, t_ladder_keys_24, t_ladder_weights_24, t_ladder_towers_24, t_ladder_coin_number_7, t_ladder_coin_tossed_7, t_ladder_coin_heads_7)
theorem iX0_insertByCoins_X0 : ∀ w ∈ u_ws RX0 TX0 5, w ∈ wsX0_insertByCoins := fun w h => List.mem_cons_of_mem _ (List.mem_append_left _ (List.mem_append_left _ (List.mem_append_left _ (List.mem_append_left _ (List.mem_append_right _ h)))))
set_option maxHeartbeats 4000000 in
set_option maxRecDepth 100000 in
theorem c_X0_insertByCoins (l : Launch) (D : va_G) (y : Nat → ClassId) (fl : Nat) (sz : Nat) (a_t : Nat) (a_t_ladder : Nat) (a_t_ladder_keys : Nat) (a_t_ladder_weights : Nat) (a_t_ladder_towers : Nat) (a_t_ladder_coin : Nat) (a_o1 : Nat) (t_detail : Int32) (t_keptReason : Int32) (t_keptDetail : Int32) (t_keptIndex : Int32) (t_ladder_size : Int32) (t_ladder_hidden : Int32) (t_ladder_keys : Nat → Int32) (t_ladder_weights : Nat → Int32) (t_ladder_towers : Nat → Int32) (t_ladder_coin_number : Int32) (t_ladder_coin_tossed : Int32) (t_ladder_coin_heads : Int32) (o1_sign : Int32) (o1_number : Int32) (o1_weight : Int32) (o1_rungs : Int32) (r : Int32) (t_ladder_size' : Int32) (t_ladder_keys' : Nat → Int32) (t_ladder_weights' : Nat → Int32) (t_ladder_towers' : Nat → Int32) (t_ladder_coin_number' : Int32) (t_ladder_coin_tossed' : Int32) (t_ladder_coin_heads' : Int32) (hF : F_X0_insertByCoins fl t_ladder_size t_ladder_keys t_ladder_weights t_ladder_towers t_ladder_coin_number t_ladder_coin_tossed t_ladder_coin_heads o1_number o1_weight = some (r, t_ladder_size', t_ladder_keys', t_ladder_weights', t_ladder_towers', t_ladder_coin_number', t_ladder_coin_tossed', t_ladder_coin_heads')) : Met l yX0_insertByCoins wsX0_insertByCoins (rmq 3 70) (wrP D y [(a_t, .inr (4, [.ref a_t_ladder, .int t_detail, .int t_keptReason, .int t_keptDetail, .int t_keptIndex])), (a_t_ladder, .inr (7, [.ref a_t_ladder_keys, .ref a_t_ladder_weights, .ref a_t_ladder_towers, .ref a_t_ladder_coin, .int t_ladder_size, .int t_ladder_hidden])), (a_t_ladder_keys, .inl (y 0, 24, .inl t_ladder_keys)), (a_t_ladder_weights, .inl (y 0, 24, .inl t_ladder_weights)), (a_t_ladder_towers, .inl (y 0, 24, .inl t_ladder_towers)), (a_t_ladder_coin, .inr (5, [.int t_ladder_coin_number, .int t_ladder_coin_tossed, .int t_ladder_coin_heads])), (a_o1, .inr (8, [.int o1_sign, .int o1_number, .int o1_weight, .int o1_rungs]))] sz [.ref a_t, .ref a_o1]) (wQi D y r [(a_t, .inr (4, [.ref a_t_ladder, .int t_detail, .int t_keptReason, .int t_keptDetail, .int t_keptIndex])), (a_t_ladder, .inr (7, [.ref a_t_ladder_keys, .ref a_t_ladder_weights, .ref a_t_ladder_towers, .ref a_t_ladder_coin, .int t_ladder_size', .int t_ladder_hidden])), (a_t_ladder_keys, .inl (y 0, 24, .inl t_ladder_keys')), (a_t_ladder_weights, .inl (y 0, 24, .inl t_ladder_weights')), (a_t_ladder_towers, .inl (y 0, 24, .inl t_ladder_towers')), (a_t_ladder_coin, .inr (5, [.int t_ladder_coin_number', .int t_ladder_coin_tossed', .int t_ladder_coin_heads'])), (a_o1, .inr (8, [.int o1_sign, .int o1_number, .int o1_weight, .int o1_rungs]))] [(a_t, .inr (4, [.ref a_t_ladder, .int t_detail, .int t_keptReason, .int t_keptDetail, .int t_keptIndex])), (a_t_ladder, .inr (7, [.ref a_t_ladder_keys, .ref a_t_ladder_weights, .ref a_t_ladder_towers, .ref a_t_ladder_coin, .int t_ladder_size, .int t_ladder_hidden])), (a_t_ladder_keys, .inl (y 0, 24, .inl t_ladder_keys)), (a_t_ladder_weights, .inl (y 0, 24, .inl t_ladder_weights)), (a_t_ladder_towers, .inl (y 0, 24, .inl t_ladder_towers)), (a_t_ladder_coin, .inr (5, [.int t_ladder_coin_number, .int t_ladder_coin_tossed, .int t_ladder_coin_heads])), (a_o1, .inr (8, [.int o1_sign, .int o1_number, .int o1_weight, .int o1_rungs]))] sz) 0 0 (va_A [(a_t, .inr (4, [.ref a_t_ladder, .int t_detail, .int t_keptReason, .int t_keptDetail, .int t_keptIndex])), (a_t_ladder, .inr (7, [.ref a_t_ladder_keys, .ref a_t_ladder_weights, .ref a_t_ladder_towers, .ref a_t_ladder_coin, .int t_ladder_size, .int t_ladder_hidden])), (a_t_ladder_keys, .inl (y 0, 24, .inl t_ladder_keys)), (a_t_ladder_weights, .inl (y 0, 24, .inl t_ladder_weights)), (a_t_ladder_towers, .inl (y 0, 24, .inl t_ladder_towers)), (a_t_ladder_coin, .inr (5, [.int t_ladder_coin_number, .int t_ladder_coin_tossed, .int t_ladder_coin_heads])), (a_o1, .inr (8, [.int o1_sign, .int o1_number, .int o1_weight, .int o1_rungs]))] sz) := by
  refine Met.ofW (cc := cX0_insertByCoins) (maxL := 3) (ret := (some .int)) (by decide) rfl ?_
  intro p e s m args below meth c s₁ B hml hv
  obtain ⟨hav, hsz, hP, hK, hD0⟩ := hv
  have hx := B.exec
  have hb := B.bytes
  have hr := B.returns
  have hts := atoms_spec (ws := wsX0_insertByCoins) B.pre
  have hown : s.vm.findClass RX0 = some m.cls := findClass_of_methodNamed B.named
  have hlocks := B.notSynchronized
  subst hsz
  have hD := hD0.self (sz := s.heap.size)
  obtain ⟨A, hAe⟩ : ∃ A : Nat → Prop, va_A [(a_t, .inr (4, [.ref a_t_ladder, .int t_detail, .int t_keptReason, .int t_keptDetail, .int t_keptIndex])), (a_t_ladder, .inr (7, [.ref a_t_ladder_keys, .ref a_t_ladder_weights, .ref a_t_ladder_towers, .ref a_t_ladder_coin, .int t_ladder_size, .int t_ladder_hidden])), (a_t_ladder_keys, .inl (y 0, 24, .inl t_ladder_keys)), (a_t_ladder_weights, .inl (y 0, 24, .inl t_ladder_weights)), (a_t_ladder_towers, .inl (y 0, 24, .inl t_ladder_towers)), (a_t_ladder_coin, .inr (5, [.int t_ladder_coin_number, .int t_ladder_coin_tossed, .int t_ladder_coin_heads])), (a_o1, .inr (8, [.int o1_sign, .int o1_number, .int o1_weight, .int o1_rungs]))] s.heap.size = A := ⟨_, rfl⟩
  rw [hAe] at hD
  have hA : ∀ q, s.heap.size ≤ q → A q := fun q h => by rw [← hAe]; exact Or.inr h
  have hS : va_S A s.heap s.heap [] := va_S.rf
  refine W_q (R1 := (rmq 3 70)) rfl (fun Q0 hQ0 => ?_)
  unfold F_X0_insertByCoins at hF
  refine W_entry hav (Nat.le_of_ble_eq_true rfl) (fun ls hl => ?_)
  have hl : lv_has ls 3 [(0, .ref a_t), (1, .ref a_o1)] := hl
  refine lv_aload_n hx hb dX0_insertByCoins_0 rfl (lv_at hl 0 rfl) ?_
  refine va_get (D := D) (ci := 4) (v := .ref a_t_ladder) (C := RX0) (T := TX0) (N := 5) hx hb hts iX0_insertByCoins_X0 hown hK hP 0 rfl rfl 0 (by decide) (hts (.fieldLink RX0 24 "SkipArchive$Clerk" "ladder" "LSkipArchive$Ladder;") (List.mem_of_getElem? (i := 1) rfl)) (fun _ h9 => h9) rfl dX0_insertByCoins_1 ?_
  obtain ⟨u_4, hq_4, hF⟩ := bn_i hF
  cases u_4
  refine cra_V (As := []) (rest := []) ⟨hx, hb, hml, hown, hts⟩ (c_X3_coin l D y fl a_t_ladder a_t_ladder_keys a_t_ladder_weights a_t_ladder_towers a_t_ladder_coin t_ladder_size t_ladder_hidden hq_4) (cwV 0 hts gX0_insertByCoins_X3_coin rfl rfl rfl (by decide +kernel) ⟨Nat.le_of_ble_eq_true rfl, Nat.le_of_ble_eq_true rfl⟩) hK hP [1] rfl rfl rfl rfl hl.1 rfl (Nat.le_of_ble_eq_true rfl) dX0_insertByCoins_4 ⟨Nat.le_of_ble_eq_true rfl, Nat.le_of_ble_eq_true rfl⟩ ?_
  obtain ⟨r_7, t_ladder_coin_number_7, t_ladder_coin_tossed_7, t_ladder_coin_heads_7, hq_7, hF⟩ := bn4_i hF
  refine cm_Vi (As := []) (rest := []) (wr := [(a_t, .inr (4, [.ref a_t_ladder, .int t_detail, .int t_keptReason, .int t_keptDetail, .int t_keptIndex])), (a_t_ladder, .inr (7, [.ref a_t_ladder_keys, .ref a_t_ladder_weights, .ref a_t_ladder_towers, .ref a_t_ladder_coin, .int t_ladder_size, .int t_ladder_hidden])), (a_t_ladder_keys, .inl (y 0, 24, .inl t_ladder_keys)), (a_t_ladder_weights, .inl (y 0, 24, .inl t_ladder_weights)), (a_t_ladder_towers, .inl (y 0, 24, .inl t_ladder_towers)), (a_o1, .inr (8, [.int o1_sign, .int o1_number, .int o1_weight, .int o1_rungs]))]) ⟨hx, hb, hml, hown, hts⟩ (c_X1_throwTower l D y fl s.heap.size a_t_ladder_coin t_ladder_coin_number t_ladder_coin_tossed t_ladder_coin_heads r_7 t_ladder_coin_number_7 t_ladder_coin_tossed_7 t_ladder_coin_heads_7 hq_7) (cwV 0 hts gX0_insertByCoins_X1_throwTower rfl rfl rfl (by decide +kernel) ⟨Nat.le_of_ble_eq_true rfl, Nat.le_of_ble_eq_true rfl⟩) hK hP hD hS hA [5] [0, 1, 2, 3, 4, 6] rfl rfl rfl rfl (by decide) rfl rfl rfl hl.1 rfl (Nat.le_of_ble_eq_true rfl) dX0_insertByCoins_7 ⟨Nat.le_of_ble_eq_true rfl, Nat.le_of_ble_eq_true rfl⟩ (fun H locs hP hD hS => ?_)
  have hP : va_P D vwCl [(a_t, .inr (4, [.ref a_t_ladder, .int t_detail, .int t_keptReason, .int t_keptDetail, .int t_keptIndex])), (a_t_ladder, .inr (7, [.ref a_t_ladder_keys, .ref a_t_ladder_weights, .ref a_t_ladder_towers, .ref a_t_ladder_coin, .int t_ladder_size, .int t_ladder_hidden])), (a_t_ladder_keys, .inl (y 0, 24, .inl t_ladder_keys)), (a_t_ladder_weights, .inl (y 0, 24, .inl t_ladder_weights)), (a_t_ladder_towers, .inl (y 0, 24, .inl t_ladder_towers)), (a_o1, .inr (8, [.int o1_sign, .int o1_number, .int o1_weight, .int o1_rungs])), (a_t_ladder_coin, .inr (5, [.int t_ladder_coin_number_7, .int t_ladder_coin_tossed_7, .int t_ladder_coin_heads_7]))] H := hP
  have hD : va_D A [(a_t, .inr (4, [.ref a_t_ladder, .int t_detail, .int t_keptReason, .int t_keptDetail, .int t_keptIndex])), (a_t_ladder, .inr (7, [.ref a_t_ladder_keys, .ref a_t_ladder_weights, .ref a_t_ladder_towers, .ref a_t_ladder_coin, .int t_ladder_size, .int t_ladder_hidden])), (a_t_ladder_keys, .inl (y 0, 24, .inl t_ladder_keys)), (a_t_ladder_weights, .inl (y 0, 24, .inl t_ladder_weights)), (a_t_ladder_towers, .inl (y 0, 24, .inl t_ladder_towers)), (a_o1, .inr (8, [.int o1_sign, .int o1_number, .int o1_weight, .int o1_rungs])), (a_t_ladder_coin, .inr (5, [.int t_ladder_coin_number_7, .int t_ladder_coin_tossed_7, .int t_ladder_coin_heads_7]))] := hD
  refine lv_istore_n (lv' := [(2, .int r_7), (0, .ref a_t), (1, .ref a_o1)]) hx hb dX0_insertByCoins_10 rfl hl (by decide) rfl (fun ls hl => ?_)
  refine lv_aload_n hx hb dX0_insertByCoins_11 rfl (lv_at hl 1 rfl) ?_
  refine va_get (D := D) (ci := 4) (v := .ref a_t_ladder) (C := RX0) (T := TX0) (N := 5) hx hb hts iX0_insertByCoins_X0 hown hK hP 0 rfl rfl 0 (by decide) (hts (.fieldLink RX0 24 "SkipArchive$Clerk" "ladder" "LSkipArchive$Ladder;") (List.mem_of_getElem? (i := 1) rfl)) (fun _ h9 => h9) rfl dX0_insertByCoins_12 ?_
  refine lv_aload_n hx hb dX0_insertByCoins_15 rfl (lv_at hl 2 rfl) ?_
  obtain ⟨r_16, hq_16, hF⟩ := bn_i hF
  refine cr_V (As := []) (rest := [.ref a_t_ladder]) ⟨hx, hb, hml, hown, hts⟩ (c_X4_number l D y fl a_o1 o1_sign o1_number o1_weight o1_rungs r_16 hq_16) (cwV 0 hts gX0_insertByCoins_X4_number rfl rfl rfl (by decide +kernel) ⟨Nat.le_of_ble_eq_true rfl, Nat.le_of_ble_eq_true rfl⟩) hK hP [5] rfl rfl rfl rfl hl.1 rfl (Nat.le_of_ble_eq_true rfl) dX0_insertByCoins_16 ⟨Nat.le_of_ble_eq_true rfl, Nat.le_of_ble_eq_true rfl⟩ ?_
  refine lv_aload_n hx hb dX0_insertByCoins_19 rfl (lv_at hl 2 rfl) ?_
  obtain ⟨r_20, hq_20, hF⟩ := bn_i hF
  refine cr_V (As := []) (rest := [.int r_16, .ref a_t_ladder]) ⟨hx, hb, hml, hown, hts⟩ (c_X4_weight l D y fl a_o1 o1_sign o1_number o1_weight o1_rungs r_20 hq_20) (cwV 0 hts gX0_insertByCoins_X4_weight rfl rfl rfl (by decide +kernel) ⟨Nat.le_of_ble_eq_true rfl, Nat.le_of_ble_eq_true rfl⟩) hK hP [5] rfl rfl rfl rfl hl.1 rfl (Nat.le_of_ble_eq_true rfl) dX0_insertByCoins_20 ⟨Nat.le_of_ble_eq_true rfl, Nat.le_of_ble_eq_true rfl⟩ ?_
  refine lv_iload_n hx hb dX0_insertByCoins_23 rfl (lv_at hl 0 rfl) ?_
  obtain ⟨t_ladder_size_24, t_ladder_keys_24, t_ladder_weights_24, t_ladder_towers_24, hq_24, hF⟩ := bn4_i hF
  refine cm_Vv (As := [.int r_16, .int r_20, .int r_7]) (rest := []) (wr := [(a_t, .inr (4, [.ref a_t_ladder, .int t_detail, .int t_keptReason, .int t_keptDetail, .int t_keptIndex])), (a_o1, .inr (8, [.int o1_sign, .int o1_number, .int o1_weight, .int o1_rungs])), (a_t_ladder_coin, .inr (5, [.int t_ladder_coin_number_7, .int t_ladder_coin_tossed_7, .int t_ladder_coin_heads_7]))]) ⟨hx, hb, hml, hown, hts⟩ (c_X3_insert l D y fl H.size a_t_ladder a_t_ladder_keys a_t_ladder_weights a_t_ladder_towers a_t_ladder_coin t_ladder_size t_ladder_hidden t_ladder_keys t_ladder_weights t_ladder_towers r_16 r_20 r_7 t_ladder_size_24 t_ladder_keys_24 t_ladder_weights_24 t_ladder_towers_24 hq_24) (cwV 3 hts gX0_insertByCoins_X3_insert rfl rfl rfl (by decide +kernel) ⟨Nat.le_of_ble_eq_true rfl, Nat.le_of_ble_eq_true rfl⟩) hK hP hD hS hA [1, 2, 3, 4] [0, 5, 6] rfl rfl rfl rfl (by decide) rfl rfl rfl hl.1 rfl (Nat.le_of_ble_eq_true rfl) dX0_insertByCoins_24 ⟨Nat.le_of_ble_eq_true rfl, Nat.le_of_ble_eq_true rfl⟩ (fun H locs hP hD hS => ?_)
  have hP : va_P D vwCl [(a_t, .inr (4, [.ref a_t_ladder, .int t_detail, .int t_keptReason, .int t_keptDetail, .int t_keptIndex])), (a_o1, .inr (8, [.int o1_sign, .int o1_number, .int o1_weight, .int o1_rungs])), (a_t_ladder_coin, .inr (5, [.int t_ladder_coin_number_7, .int t_ladder_coin_tossed_7, .int t_ladder_coin_heads_7])), (a_t_ladder, .inr (7, [.ref a_t_ladder_keys, .ref a_t_ladder_weights, .ref a_t_ladder_towers, .ref a_t_ladder_coin, .int t_ladder_size_24, .int t_ladder_hidden])), (a_t_ladder_keys, .inl (y 0, 24, .inl t_ladder_keys_24)), (a_t_ladder_weights, .inl (y 0, 24, .inl t_ladder_weights_24)), (a_t_ladder_towers, .inl (y 0, 24, .inl t_ladder_towers_24))] H := hP
  have hD : va_D A [(a_t, .inr (4, [.ref a_t_ladder, .int t_detail, .int t_keptReason, .int t_keptDetail, .int t_keptIndex])), (a_o1, .inr (8, [.int o1_sign, .int o1_number, .int o1_weight, .int o1_rungs])), (a_t_ladder_coin, .inr (5, [.int t_ladder_coin_number_7, .int t_ladder_coin_tossed_7, .int t_ladder_coin_heads_7])), (a_t_ladder, .inr (7, [.ref a_t_ladder_keys, .ref a_t_ladder_weights, .ref a_t_ladder_towers, .ref a_t_ladder_coin, .int t_ladder_size_24, .int t_ladder_hidden])), (a_t_ladder_keys, .inl (y 0, 24, .inl t_ladder_keys_24)), (a_t_ladder_weights, .inl (y 0, 24, .inl t_ladder_weights_24)), (a_t_ladder_towers, .inl (y 0, 24, .inl t_ladder_towers_24))] := hD
  refine lv_iload_n hx hb dX0_insertByCoins_27 rfl (lv_at hl 0 rfl) ?_
  obtain ⟨e0_28, e1_28, e2_28, e3_28, e4_28, e5_28, e6_28, e7_28⟩ := inj8 hF
  rw [← e0_28, ← e1_28, ← e2_28, ← e3_28, ← e4_28, ← e5_28, ← e6_28, ← e7_28] at hQ0
  rw [hQ0]
  exact ret_i hx hb hr hlocks hAe hK hP hD hS [0, 3, 4, 5, 6, 2, 1] rfl rfl dX0_insertByCoins_28
def F_X0_changeTower (fl : Nat) (t_ladder_size : Int32) (t_ladder_keys : Nat → Int32) (t_ladder_weights : Nat → Int32) (t_ladder_towers : Nat → Int32) (p1 : Int32) (p2 : Int32) : Option (Int32 × (Nat → Int32) × (Nat → Int32) × (Nat → Int32)) := bn (F_X3_rungsOf fl t_ladder_size t_ladder_towers p1) fun r_5 => bn (F_X3_keyOf fl t_ladder_size t_ladder_keys p1) fun r_21 => bn (F_X3_weightOf fl t_ladder_size t_ladder_weights p1) fun r_29 => bn3 (F_X3_put fl t_ladder_size t_ladder_keys t_ladder_weights t_ladder_towers p1 r_21 r_29 (r_5 + p2)) fun t_ladder_keys_33 t_ladder_weights_33 t_ladder_towers_33 => some (r_5 + p2, t_ladder_keys_33, t_ladder_weights_33, t_ladder_towers_33)
theorem iX0_changeTower_X0 : ∀ w ∈ u_ws RX0 TX0 5, w ∈ wsX0_changeTower := fun w h => List.mem_cons_of_mem _ (List.mem_append_left _ (List.mem_append_left _ (List.mem_append_right _ h)))
set_option maxHeartbeats 4000000 in
set_option maxRecDepth 100000 in
theorem c_X0_changeTower (l : Launch) (D : va_G) (y : Nat → ClassId) (fl : Nat) (sz : Nat) (a_t : Nat) (a_t_ladder : Nat) (a_t_ladder_keys : Nat) (a_t_ladder_weights : Nat) (a_t_ladder_towers : Nat) (a_t_ladder_coin : Nat) (t_detail : Int32) (t_keptReason : Int32) (t_keptDetail : Int32) (t_keptIndex : Int32) (t_ladder_size : Int32) (t_ladder_hidden : Int32) (t_ladder_keys : Nat → Int32) (t_ladder_weights : Nat → Int32) (t_ladder_towers : Nat → Int32) (p1 : Int32) (p2 : Int32) (r : Int32) (t_ladder_keys' : Nat → Int32) (t_ladder_weights' : Nat → Int32) (t_ladder_towers' : Nat → Int32) (hF : F_X0_changeTower fl t_ladder_size t_ladder_keys t_ladder_weights t_ladder_towers p1 p2 = some (r, t_ladder_keys', t_ladder_weights', t_ladder_towers')) : Met l yX0_changeTower wsX0_changeTower (rmq 2 45) (wrP D y [(a_t, .inr (4, [.ref a_t_ladder, .int t_detail, .int t_keptReason, .int t_keptDetail, .int t_keptIndex])), (a_t_ladder, .inr (7, [.ref a_t_ladder_keys, .ref a_t_ladder_weights, .ref a_t_ladder_towers, .ref a_t_ladder_coin, .int t_ladder_size, .int t_ladder_hidden])), (a_t_ladder_keys, .inl (y 0, 24, .inl t_ladder_keys)), (a_t_ladder_weights, .inl (y 0, 24, .inl t_ladder_weights)), (a_t_ladder_towers, .inl (y 0, 24, .inl t_ladder_towers))] sz [.ref a_t, .int p1, .int p2]) (wQi D y r [(a_t, .inr (4, [.ref a_t_ladder, .int t_detail, .int t_keptReason, .int t_keptDetail, .int t_keptIndex])), (a_t_ladder, .inr (7, [.ref a_t_ladder_keys, .ref a_t_ladder_weights, .ref a_t_ladder_towers, .ref a_t_ladder_coin, .int t_ladder_size, .int t_ladder_hidden])), (a_t_ladder_keys, .inl (y 0, 24, .inl t_ladder_keys')), (a_t_ladder_weights, .inl (y 0, 24, .inl t_ladder_weights')), (a_t_ladder_towers, .inl (y 0, 24, .inl t_ladder_towers'))] [(a_t, .inr (4, [.ref a_t_ladder, .int t_detail, .int t_keptReason, .int t_keptDetail, .int t_keptIndex])), (a_t_ladder, .inr (7, [.ref a_t_ladder_keys, .ref a_t_ladder_weights, .ref a_t_ladder_towers, .ref a_t_ladder_coin, .int t_ladder_size, .int t_ladder_hidden])), (a_t_ladder_keys, .inl (y 0, 24, .inl t_ladder_keys)), (a_t_ladder_weights, .inl (y 0, 24, .inl t_ladder_weights)), (a_t_ladder_towers, .inl (y 0, 24, .inl t_ladder_towers))] sz) 0 0 (va_A [(a_t, .inr (4, [.ref a_t_ladder, .int t_detail, .int t_keptReason, .int t_keptDetail, .int t_keptIndex])), (a_t_ladder, .inr (7, [.ref a_t_ladder_keys, .ref a_t_ladder_weights, .ref a_t_ladder_towers, .ref a_t_ladder_coin, .int t_ladder_size, .int t_ladder_hidden])), (a_t_ladder_keys, .inl (y 0, 24, .inl t_ladder_keys)), (a_t_ladder_weights, .inl (y 0, 24, .inl t_ladder_weights)), (a_t_ladder_towers, .inl (y 0, 24, .inl t_ladder_towers))] sz) := by
  refine Met.ofW (cc := cX0_changeTower) (maxL := 4) (ret := (some .int)) (by decide) rfl ?_
  intro p e s m args below meth c s₁ B hml hv
  obtain ⟨hav, hsz, hP, hK, hD0⟩ := hv
  have hx := B.exec
  have hb := B.bytes
  have hr := B.returns
  have hts := atoms_spec (ws := wsX0_changeTower) B.pre
  have hown : s.vm.findClass RX0 = some m.cls := findClass_of_methodNamed B.named
  have hlocks := B.notSynchronized
  subst hsz
  have hD := hD0.self (sz := s.heap.size)
  obtain ⟨A, hAe⟩ : ∃ A : Nat → Prop, va_A [(a_t, .inr (4, [.ref a_t_ladder, .int t_detail, .int t_keptReason, .int t_keptDetail, .int t_keptIndex])), (a_t_ladder, .inr (7, [.ref a_t_ladder_keys, .ref a_t_ladder_weights, .ref a_t_ladder_towers, .ref a_t_ladder_coin, .int t_ladder_size, .int t_ladder_hidden])), (a_t_ladder_keys, .inl (y 0, 24, .inl t_ladder_keys)), (a_t_ladder_weights, .inl (y 0, 24, .inl t_ladder_weights)), (a_t_ladder_towers, .inl (y 0, 24, .inl t_ladder_towers))] s.heap.size = A := ⟨_, rfl⟩
  rw [hAe] at hD
  have hA : ∀ q, s.heap.size ≤ q → A q := fun q h => by rw [← hAe]; exact Or.inr h
  have hS : va_S A s.heap s.heap [] := va_S.rf
  refine W_q (R1 := (rmq 2 45)) rfl (fun Q0 hQ0 => ?_)
  unfold F_X0_changeTower at hF
  refine W_entry hav (Nat.le_of_ble_eq_true rfl) (fun ls hl => ?_)
  have hl : lv_has ls 4 [(0, .ref a_t), (1, .int p1), (2, .int p2)] := hl
  refine lv_aload_n hx hb dX0_changeTower_0 rfl (lv_at hl 0 rfl) ?_
  refine va_get (D := D) (ci := 4) (v := .ref a_t_ladder) (C := RX0) (T := TX0) (N := 5) hx hb hts iX0_changeTower_X0 hown hK hP 0 rfl rfl 0 (by decide) (hts (.fieldLink RX0 24 "SkipArchive$Clerk" "ladder" "LSkipArchive$Ladder;") (List.mem_of_getElem? (i := 1) rfl)) (fun _ h9 => h9) rfl dX0_changeTower_1 ?_
  refine lv_iload_n hx hb dX0_changeTower_4 rfl (lv_at hl 1 rfl) ?_
  obtain ⟨r_5, hq_5, hF⟩ := bn_i hF
  refine cr_V (As := [.int p1]) (rest := []) ⟨hx, hb, hml, hown, hts⟩ (c_X3_rungsOf l D y fl a_t_ladder a_t_ladder_keys a_t_ladder_weights a_t_ladder_towers a_t_ladder_coin t_ladder_size t_ladder_hidden t_ladder_towers p1 r_5 hq_5) (cwV 1 hts gX0_changeTower_X3_rungsOf rfl rfl rfl (by decide +kernel) ⟨Nat.le_of_ble_eq_true rfl, Nat.le_of_ble_eq_true rfl⟩) hK hP [1, 4] rfl rfl rfl rfl hl.1 rfl (Nat.le_of_ble_eq_true rfl) dX0_changeTower_5 ⟨Nat.le_of_ble_eq_true rfl, Nat.le_of_ble_eq_true rfl⟩ ?_
  refine lv_iload_n hx hb dX0_changeTower_8 rfl (lv_at hl 2 rfl) ?_
  refine lv_iadd hx hb dX0_changeTower_9 ?_
  refine lv_istore_n (lv' := [(3, .int (r_5 + p2)), (0, .ref a_t), (1, .int p1), (2, .int p2)]) hx hb dX0_changeTower_10 rfl hl (by decide) rfl (fun ls hl => ?_)
  refine lv_aload_n hx hb dX0_changeTower_11 rfl (lv_at hl 1 rfl) ?_
  refine va_get (D := D) (ci := 4) (v := .ref a_t_ladder) (C := RX0) (T := TX0) (N := 5) hx hb hts iX0_changeTower_X0 hown hK hP 0 rfl rfl 0 (by decide) (hts (.fieldLink RX0 24 "SkipArchive$Clerk" "ladder" "LSkipArchive$Ladder;") (List.mem_of_getElem? (i := 1) rfl)) (fun _ h9 => h9) rfl dX0_changeTower_12 ?_
  refine lv_iload_n hx hb dX0_changeTower_15 rfl (lv_at hl 2 rfl) ?_
  refine lv_aload_n hx hb dX0_changeTower_16 rfl (lv_at hl 1 rfl) ?_
  refine va_get (D := D) (ci := 4) (v := .ref a_t_ladder) (C := RX0) (T := TX0) (N := 5) hx hb hts iX0_changeTower_X0 hown hK hP 0 rfl rfl 0 (by decide) (hts (.fieldLink RX0 24 "SkipArchive$Clerk" "ladder" "LSkipArchive$Ladder;") (List.mem_of_getElem? (i := 1) rfl)) (fun _ h9 => h9) rfl dX0_changeTower_17 ?_
  refine lv_iload_n hx hb dX0_changeTower_20 rfl (lv_at hl 2 rfl) ?_
  obtain ⟨r_21, hq_21, hF⟩ := bn_i hF
  refine cr_V (As := [.int p1]) (rest := [.int p1, .ref a_t_ladder]) ⟨hx, hb, hml, hown, hts⟩ (c_X3_keyOf l D y fl a_t_ladder a_t_ladder_keys a_t_ladder_weights a_t_ladder_towers a_t_ladder_coin t_ladder_size t_ladder_hidden t_ladder_keys p1 r_21 hq_21) (cwV 1 hts gX0_changeTower_X3_keyOf rfl rfl rfl (by decide +kernel) ⟨Nat.le_of_ble_eq_true rfl, Nat.le_of_ble_eq_true rfl⟩) hK hP [1, 2] rfl rfl rfl rfl hl.1 rfl (Nat.le_of_ble_eq_true rfl) dX0_changeTower_21 ⟨Nat.le_of_ble_eq_true rfl, Nat.le_of_ble_eq_true rfl⟩ ?_
  refine lv_aload_n hx hb dX0_changeTower_24 rfl (lv_at hl 1 rfl) ?_
  refine va_get (D := D) (ci := 4) (v := .ref a_t_ladder) (C := RX0) (T := TX0) (N := 5) hx hb hts iX0_changeTower_X0 hown hK hP 0 rfl rfl 0 (by decide) (hts (.fieldLink RX0 24 "SkipArchive$Clerk" "ladder" "LSkipArchive$Ladder;") (List.mem_of_getElem? (i := 1) rfl)) (fun _ h9 => h9) rfl dX0_changeTower_25 ?_
  refine lv_iload_n hx hb dX0_changeTower_28 rfl (lv_at hl 2 rfl) ?_
  obtain ⟨r_29, hq_29, hF⟩ := bn_i hF
  refine cr_V (As := [.int p1]) (rest := [.int r_21, .int p1, .ref a_t_ladder]) ⟨hx, hb, hml, hown, hts⟩ (c_X3_weightOf l D y fl a_t_ladder a_t_ladder_keys a_t_ladder_weights a_t_ladder_towers a_t_ladder_coin t_ladder_size t_ladder_hidden t_ladder_weights p1 r_29 hq_29) (cwV 1 hts gX0_changeTower_X3_weightOf rfl rfl rfl (by decide +kernel) ⟨Nat.le_of_ble_eq_true rfl, Nat.le_of_ble_eq_true rfl⟩) hK hP [1, 3] rfl rfl rfl rfl hl.1 rfl (Nat.le_of_ble_eq_true rfl) dX0_changeTower_29 ⟨Nat.le_of_ble_eq_true rfl, Nat.le_of_ble_eq_true rfl⟩ ?_
  refine lv_iload_n hx hb dX0_changeTower_32 rfl (lv_at hl 0 rfl) ?_
  obtain ⟨t_ladder_keys_33, t_ladder_weights_33, t_ladder_towers_33, hq_33, hF⟩ := bn3_i hF
  refine cm_Vv (As := [.int p1, .int r_21, .int r_29, .int (r_5 + p2)]) (rest := []) (wr := [(a_t, .inr (4, [.ref a_t_ladder, .int t_detail, .int t_keptReason, .int t_keptDetail, .int t_keptIndex]))]) ⟨hx, hb, hml, hown, hts⟩ (c_X3_put l D y fl s.heap.size a_t_ladder a_t_ladder_keys a_t_ladder_weights a_t_ladder_towers a_t_ladder_coin t_ladder_size t_ladder_hidden t_ladder_keys t_ladder_weights t_ladder_towers p1 r_21 r_29 (r_5 + p2) t_ladder_keys_33 t_ladder_weights_33 t_ladder_towers_33 hq_33) (cwV 4 hts gX0_changeTower_X3_put rfl rfl rfl (by decide +kernel) ⟨Nat.le_of_ble_eq_true rfl, Nat.le_of_ble_eq_true rfl⟩) hK hP hD hS hA [1, 2, 3, 4] [0] rfl rfl rfl rfl (by decide) rfl rfl rfl hl.1 rfl (Nat.le_of_ble_eq_true rfl) dX0_changeTower_33 ⟨Nat.le_of_ble_eq_true rfl, Nat.le_of_ble_eq_true rfl⟩ (fun H locs hP hD hS => ?_)
  have hP : va_P D vwCl [(a_t, .inr (4, [.ref a_t_ladder, .int t_detail, .int t_keptReason, .int t_keptDetail, .int t_keptIndex])), (a_t_ladder, .inr (7, [.ref a_t_ladder_keys, .ref a_t_ladder_weights, .ref a_t_ladder_towers, .ref a_t_ladder_coin, .int t_ladder_size, .int t_ladder_hidden])), (a_t_ladder_keys, .inl (y 0, 24, .inl t_ladder_keys_33)), (a_t_ladder_weights, .inl (y 0, 24, .inl t_ladder_weights_33)), (a_t_ladder_towers, .inl (y 0, 24, .inl t_ladder_towers_33))] H := hP
  have hD : va_D A [(a_t, .inr (4, [.ref a_t_ladder, .int t_detail, .int t_keptReason, .int t_keptDetail, .int t_keptIndex])), (a_t_ladder, .inr (7, [.ref a_t_ladder_keys, .ref a_t_ladder_weights, .ref a_t_ladder_towers, .ref a_t_ladder_coin, .int t_ladder_size, .int t_ladder_hidden])), (a_t_ladder_keys, .inl (y 0, 24, .inl t_ladder_keys_33)), (a_t_ladder_weights, .inl (y 0, 24, .inl t_ladder_weights_33)), (a_t_ladder_towers, .inl (y 0, 24, .inl t_ladder_towers_33))] := hD
  refine lv_iload_n hx hb dX0_changeTower_36 rfl (lv_at hl 0 rfl) ?_
  obtain ⟨e0_37, e1_37, e2_37, e3_37⟩ := inj4 hF
  rw [← e0_37, ← e1_37, ← e2_37, ← e3_37] at hQ0
  rw [hQ0]
  exact ret_i hx hb hr hlocks hAe hK hP hD hS [0, 1, 2, 3, 4] rfl rfl dX0_changeTower_37
def F_X0_changeWeight (fl : Nat) (t_ladder_size : Int32) (t_ladder_keys : Nat → Int32) (t_ladder_weights : Nat → Int32) (t_ladder_towers : Nat → Int32) (p1 : Int32) (p2 : Int32) : Option (Int32 × (Nat → Int32) × (Nat → Int32) × (Nat → Int32)) := bn (F_X3_weightOf fl t_ladder_size t_ladder_weights p1) fun r_5 => bn (F_X3_keyOf fl t_ladder_size t_ladder_keys p1) fun r_19 => bn (F_X3_rungsOf fl t_ladder_size t_ladder_towers p1) fun r_28 => bn3 (F_X3_put fl t_ladder_size t_ladder_keys t_ladder_weights t_ladder_towers p1 r_19 p2 r_28) fun t_ladder_keys_31 t_ladder_weights_31 t_ladder_towers_31 => some (r_5, t_ladder_keys_31, t_ladder_weights_31, t_ladder_towers_31)
theorem iX0_changeWeight_X0 : ∀ w ∈ u_ws RX0 TX0 5, w ∈ wsX0_changeWeight := fun w h => List.mem_cons_of_mem _ (List.mem_append_left _ (List.mem_append_left _ (List.mem_append_right _ h)))
set_option maxHeartbeats 4000000 in
set_option maxRecDepth 100000 in
theorem c_X0_changeWeight (l : Launch) (D : va_G) (y : Nat → ClassId) (fl : Nat) (sz : Nat) (a_t : Nat) (a_t_ladder : Nat) (a_t_ladder_keys : Nat) (a_t_ladder_weights : Nat) (a_t_ladder_towers : Nat) (a_t_ladder_coin : Nat) (t_detail : Int32) (t_keptReason : Int32) (t_keptDetail : Int32) (t_keptIndex : Int32) (t_ladder_size : Int32) (t_ladder_hidden : Int32) (t_ladder_keys : Nat → Int32) (t_ladder_weights : Nat → Int32) (t_ladder_towers : Nat → Int32) (p1 : Int32) (p2 : Int32) (r : Int32) (t_ladder_keys' : Nat → Int32) (t_ladder_weights' : Nat → Int32) (t_ladder_towers' : Nat → Int32) (hF : F_X0_changeWeight fl t_ladder_size t_ladder_keys t_ladder_weights t_ladder_towers p1 p2 = some (r, t_ladder_keys', t_ladder_weights', t_ladder_towers')) : Met l yX0_changeWeight wsX0_changeWeight (rmq 2 45) (wrP D y [(a_t, .inr (4, [.ref a_t_ladder, .int t_detail, .int t_keptReason, .int t_keptDetail, .int t_keptIndex])), (a_t_ladder, .inr (7, [.ref a_t_ladder_keys, .ref a_t_ladder_weights, .ref a_t_ladder_towers, .ref a_t_ladder_coin, .int t_ladder_size, .int t_ladder_hidden])), (a_t_ladder_keys, .inl (y 0, 24, .inl t_ladder_keys)), (a_t_ladder_weights, .inl (y 0, 24, .inl t_ladder_weights)), (a_t_ladder_towers, .inl (y 0, 24, .inl t_ladder_towers))] sz [.ref a_t, .int p1, .int p2]) (wQi D y r [(a_t, .inr (4, [.ref a_t_ladder, .int t_detail, .int t_keptReason, .int t_keptDetail, .int t_keptIndex])), (a_t_ladder, .inr (7, [.ref a_t_ladder_keys, .ref a_t_ladder_weights, .ref a_t_ladder_towers, .ref a_t_ladder_coin, .int t_ladder_size, .int t_ladder_hidden])), (a_t_ladder_keys, .inl (y 0, 24, .inl t_ladder_keys')), (a_t_ladder_weights, .inl (y 0, 24, .inl t_ladder_weights')), (a_t_ladder_towers, .inl (y 0, 24, .inl t_ladder_towers'))] [(a_t, .inr (4, [.ref a_t_ladder, .int t_detail, .int t_keptReason, .int t_keptDetail, .int t_keptIndex])), (a_t_ladder, .inr (7, [.ref a_t_ladder_keys, .ref a_t_ladder_weights, .ref a_t_ladder_towers, .ref a_t_ladder_coin, .int t_ladder_size, .int t_ladder_hidden])), (a_t_ladder_keys, .inl (y 0, 24, .inl t_ladder_keys)), (a_t_ladder_weights, .inl (y 0, 24, .inl t_ladder_weights)), (a_t_ladder_towers, .inl (y 0, 24, .inl t_ladder_towers))] sz) 0 0 (va_A [(a_t, .inr (4, [.ref a_t_ladder, .int t_detail, .int t_keptReason, .int t_keptDetail, .int t_keptIndex])), (a_t_ladder, .inr (7, [.ref a_t_ladder_keys, .ref a_t_ladder_weights, .ref a_t_ladder_towers, .ref a_t_ladder_coin, .int t_ladder_size, .int t_ladder_hidden])), (a_t_ladder_keys, .inl (y 0, 24, .inl t_ladder_keys)), (a_t_ladder_weights, .inl (y 0, 24, .inl t_ladder_weights)), (a_t_ladder_towers, .inl (y 0, 24, .inl t_ladder_towers))] sz) := by
  refine Met.ofW (cc := cX0_changeWeight) (maxL := 4) (ret := (some .int)) (by decide) rfl ?_
  intro p e s m args below meth c s₁ B hml hv
  obtain ⟨hav, hsz, hP, hK, hD0⟩ := hv
  have hx := B.exec
  have hb := B.bytes
  have hr := B.returns
  have hts := atoms_spec (ws := wsX0_changeWeight) B.pre
  have hown : s.vm.findClass RX0 = some m.cls := findClass_of_methodNamed B.named
  have hlocks := B.notSynchronized
  subst hsz
  have hD := hD0.self (sz := s.heap.size)
  obtain ⟨A, hAe⟩ : ∃ A : Nat → Prop, va_A [(a_t, .inr (4, [.ref a_t_ladder, .int t_detail, .int t_keptReason, .int t_keptDetail, .int t_keptIndex])), (a_t_ladder, .inr (7, [.ref a_t_ladder_keys, .ref a_t_ladder_weights, .ref a_t_ladder_towers, .ref a_t_ladder_coin, .int t_ladder_size, .int t_ladder_hidden])), (a_t_ladder_keys, .inl (y 0, 24, .inl t_ladder_keys)), (a_t_ladder_weights, .inl (y 0, 24, .inl t_ladder_weights)), (a_t_ladder_towers, .inl (y 0, 24, .inl t_ladder_towers))] s.heap.size = A := ⟨_, rfl⟩
  rw [hAe] at hD
  have hA : ∀ q, s.heap.size ≤ q → A q := fun q h => by rw [← hAe]; exact Or.inr h
  have hS : va_S A s.heap s.heap [] := va_S.rf
  refine W_q (R1 := (rmq 2 45)) rfl (fun Q0 hQ0 => ?_)
  unfold F_X0_changeWeight at hF
  refine W_entry hav (Nat.le_of_ble_eq_true rfl) (fun ls hl => ?_)
  have hl : lv_has ls 4 [(0, .ref a_t), (1, .int p1), (2, .int p2)] := hl
  refine lv_aload_n hx hb dX0_changeWeight_0 rfl (lv_at hl 0 rfl) ?_
  refine va_get (D := D) (ci := 4) (v := .ref a_t_ladder) (C := RX0) (T := TX0) (N := 5) hx hb hts iX0_changeWeight_X0 hown hK hP 0 rfl rfl 0 (by decide) (hts (.fieldLink RX0 24 "SkipArchive$Clerk" "ladder" "LSkipArchive$Ladder;") (List.mem_of_getElem? (i := 1) rfl)) (fun _ h9 => h9) rfl dX0_changeWeight_1 ?_
  refine lv_iload_n hx hb dX0_changeWeight_4 rfl (lv_at hl 1 rfl) ?_
  obtain ⟨r_5, hq_5, hF⟩ := bn_i hF
  refine cr_V (As := [.int p1]) (rest := []) ⟨hx, hb, hml, hown, hts⟩ (c_X3_weightOf l D y fl a_t_ladder a_t_ladder_keys a_t_ladder_weights a_t_ladder_towers a_t_ladder_coin t_ladder_size t_ladder_hidden t_ladder_weights p1 r_5 hq_5) (cwV 1 hts gX0_changeWeight_X3_weightOf rfl rfl rfl (by decide +kernel) ⟨Nat.le_of_ble_eq_true rfl, Nat.le_of_ble_eq_true rfl⟩) hK hP [1, 3] rfl rfl rfl rfl hl.1 rfl (Nat.le_of_ble_eq_true rfl) dX0_changeWeight_5 ⟨Nat.le_of_ble_eq_true rfl, Nat.le_of_ble_eq_true rfl⟩ ?_
  refine lv_istore_n (lv' := [(3, .int r_5), (0, .ref a_t), (1, .int p1), (2, .int p2)]) hx hb dX0_changeWeight_8 rfl hl (by decide) rfl (fun ls hl => ?_)
  refine lv_aload_n hx hb dX0_changeWeight_9 rfl (lv_at hl 1 rfl) ?_
  refine va_get (D := D) (ci := 4) (v := .ref a_t_ladder) (C := RX0) (T := TX0) (N := 5) hx hb hts iX0_changeWeight_X0 hown hK hP 0 rfl rfl 0 (by decide) (hts (.fieldLink RX0 24 "SkipArchive$Clerk" "ladder" "LSkipArchive$Ladder;") (List.mem_of_getElem? (i := 1) rfl)) (fun _ h9 => h9) rfl dX0_changeWeight_10 ?_
  refine lv_iload_n hx hb dX0_changeWeight_13 rfl (lv_at hl 2 rfl) ?_
  refine lv_aload_n hx hb dX0_changeWeight_14 rfl (lv_at hl 1 rfl) ?_
  refine va_get (D := D) (ci := 4) (v := .ref a_t_ladder) (C := RX0) (T := TX0) (N := 5) hx hb hts iX0_changeWeight_X0 hown hK hP 0 rfl rfl 0 (by decide) (hts (.fieldLink RX0 24 "SkipArchive$Clerk" "ladder" "LSkipArchive$Ladder;") (List.mem_of_getElem? (i := 1) rfl)) (fun _ h9 => h9) rfl dX0_changeWeight_15 ?_
  refine lv_iload_n hx hb dX0_changeWeight_18 rfl (lv_at hl 2 rfl) ?_
  obtain ⟨r_19, hq_19, hF⟩ := bn_i hF
  refine cr_V (As := [.int p1]) (rest := [.int p1, .ref a_t_ladder]) ⟨hx, hb, hml, hown, hts⟩ (c_X3_keyOf l D y fl a_t_ladder a_t_ladder_keys a_t_ladder_weights a_t_ladder_towers a_t_ladder_coin t_ladder_size t_ladder_hidden t_ladder_keys p1 r_19 hq_19) (cwV 1 hts gX0_changeWeight_X3_keyOf rfl rfl rfl (by decide +kernel) ⟨Nat.le_of_ble_eq_true rfl, Nat.le_of_ble_eq_true rfl⟩) hK hP [1, 2] rfl rfl rfl rfl hl.1 rfl (Nat.le_of_ble_eq_true rfl) dX0_changeWeight_19 ⟨Nat.le_of_ble_eq_true rfl, Nat.le_of_ble_eq_true rfl⟩ ?_
  refine lv_iload_n hx hb dX0_changeWeight_22 rfl (lv_at hl 3 rfl) ?_
  refine lv_aload_n hx hb dX0_changeWeight_23 rfl (lv_at hl 1 rfl) ?_
  refine va_get (D := D) (ci := 4) (v := .ref a_t_ladder) (C := RX0) (T := TX0) (N := 5) hx hb hts iX0_changeWeight_X0 hown hK hP 0 rfl rfl 0 (by decide) (hts (.fieldLink RX0 24 "SkipArchive$Clerk" "ladder" "LSkipArchive$Ladder;") (List.mem_of_getElem? (i := 1) rfl)) (fun _ h9 => h9) rfl dX0_changeWeight_24 ?_
  refine lv_iload_n hx hb dX0_changeWeight_27 rfl (lv_at hl 2 rfl) ?_
  obtain ⟨r_28, hq_28, hF⟩ := bn_i hF
  refine cr_V (As := [.int p1]) (rest := [.int p2, .int r_19, .int p1, .ref a_t_ladder]) ⟨hx, hb, hml, hown, hts⟩ (c_X3_rungsOf l D y fl a_t_ladder a_t_ladder_keys a_t_ladder_weights a_t_ladder_towers a_t_ladder_coin t_ladder_size t_ladder_hidden t_ladder_towers p1 r_28 hq_28) (cwV 1 hts gX0_changeWeight_X3_rungsOf rfl rfl rfl (by decide +kernel) ⟨Nat.le_of_ble_eq_true rfl, Nat.le_of_ble_eq_true rfl⟩) hK hP [1, 4] rfl rfl rfl rfl hl.1 rfl (Nat.le_of_ble_eq_true rfl) dX0_changeWeight_28 ⟨Nat.le_of_ble_eq_true rfl, Nat.le_of_ble_eq_true rfl⟩ ?_
  obtain ⟨t_ladder_keys_31, t_ladder_weights_31, t_ladder_towers_31, hq_31, hF⟩ := bn3_i hF
  refine cm_Vv (As := [.int p1, .int r_19, .int p2, .int r_28]) (rest := []) (wr := [(a_t, .inr (4, [.ref a_t_ladder, .int t_detail, .int t_keptReason, .int t_keptDetail, .int t_keptIndex]))]) ⟨hx, hb, hml, hown, hts⟩ (c_X3_put l D y fl s.heap.size a_t_ladder a_t_ladder_keys a_t_ladder_weights a_t_ladder_towers a_t_ladder_coin t_ladder_size t_ladder_hidden t_ladder_keys t_ladder_weights t_ladder_towers p1 r_19 p2 r_28 t_ladder_keys_31 t_ladder_weights_31 t_ladder_towers_31 hq_31) (cwV 4 hts gX0_changeWeight_X3_put rfl rfl rfl (by decide +kernel) ⟨Nat.le_of_ble_eq_true rfl, Nat.le_of_ble_eq_true rfl⟩) hK hP hD hS hA [1, 2, 3, 4] [0] rfl rfl rfl rfl (by decide) rfl rfl rfl hl.1 rfl (Nat.le_of_ble_eq_true rfl) dX0_changeWeight_31 ⟨Nat.le_of_ble_eq_true rfl, Nat.le_of_ble_eq_true rfl⟩ (fun H locs hP hD hS => ?_)
  have hP : va_P D vwCl [(a_t, .inr (4, [.ref a_t_ladder, .int t_detail, .int t_keptReason, .int t_keptDetail, .int t_keptIndex])), (a_t_ladder, .inr (7, [.ref a_t_ladder_keys, .ref a_t_ladder_weights, .ref a_t_ladder_towers, .ref a_t_ladder_coin, .int t_ladder_size, .int t_ladder_hidden])), (a_t_ladder_keys, .inl (y 0, 24, .inl t_ladder_keys_31)), (a_t_ladder_weights, .inl (y 0, 24, .inl t_ladder_weights_31)), (a_t_ladder_towers, .inl (y 0, 24, .inl t_ladder_towers_31))] H := hP
  have hD : va_D A [(a_t, .inr (4, [.ref a_t_ladder, .int t_detail, .int t_keptReason, .int t_keptDetail, .int t_keptIndex])), (a_t_ladder, .inr (7, [.ref a_t_ladder_keys, .ref a_t_ladder_weights, .ref a_t_ladder_towers, .ref a_t_ladder_coin, .int t_ladder_size, .int t_ladder_hidden])), (a_t_ladder_keys, .inl (y 0, 24, .inl t_ladder_keys_31)), (a_t_ladder_weights, .inl (y 0, 24, .inl t_ladder_weights_31)), (a_t_ladder_towers, .inl (y 0, 24, .inl t_ladder_towers_31))] := hD
  refine lv_iload_n hx hb dX0_changeWeight_34 rfl (lv_at hl 0 rfl) ?_
  obtain ⟨e0_35, e1_35, e2_35, e3_35⟩ := inj4 hF
  rw [← e0_35, ← e1_35, ← e2_35, ← e3_35] at hQ0
  rw [hQ0]
  exact ret_i hx hb hr hlocks hAe hK hP hD hS [0, 1, 2, 3, 4] rfl rfl dX0_changeWeight_35
def F_X0_carryOut (fl : Nat) (t_ladder_size : Int32) (t_ladder_hidden : Int32) (t_ladder_keys : Nat → Int32) (t_ladder_weights : Nat → Int32) (t_ladder_towers : Nat → Int32) (t_ladder_coin_number : Int32) (t_ladder_coin_tossed : Int32) (t_ladder_coin_heads : Int32) (o1_sign : Int32) (o1_number : Int32) (o1_weight : Int32) (o1_rungs : Int32) : Option (Int32 × Int32 × Int32 × (Nat → Int32) × (Nat → Int32) × (Nat → Int32) × Int32 × Int32 × Int32) := bn (F_X4_number fl o1_number) fun r_5 => bn (F_X3_placeWith fl t_ladder_size t_ladder_keys r_5) fun r_8 => bn (F_X4_sign fl o1_sign) fun r_13 => if r_13 = (43 : Int32) then (bn8 (F_X0_insertByCoins fl t_ladder_size t_ladder_keys t_ladder_weights t_ladder_towers t_ladder_coin_number t_ladder_coin_tossed t_ladder_coin_heads o1_number o1_weight) fun r_94 t_ladder_size_94 t_ladder_keys_94 t_ladder_weights_94 t_ladder_towers_94 t_ladder_coin_number_94 t_ladder_coin_tossed_94 t_ladder_coin_heads_94 => some (r_94, t_ladder_size_94, t_ladder_hidden, t_ladder_keys_94, t_ladder_weights_94, t_ladder_towers_94, t_ladder_coin_number_94, t_ladder_coin_tossed_94, t_ladder_coin_heads_94)) else (if r_13 = (45 : Int32) then (bn4 (F_X3_remove fl t_ladder_size t_ladder_keys t_ladder_weights t_ladder_towers r_8) fun t_ladder_size_134 t_ladder_keys_134 t_ladder_weights_134 t_ladder_towers_134 => bn (F_X3_size fl t_ladder_size_134) fun r_141 => some (r_141, t_ladder_size_134, t_ladder_hidden, t_ladder_keys_134, t_ladder_weights_134, t_ladder_towers_134, t_ladder_coin_number, t_ladder_coin_tossed, t_ladder_coin_heads)) else (if r_13 = (94 : Int32) then (bn (F_X4_number fl o1_number) fun r_103 => bn (F_X4_weight fl o1_weight) fun r_107 => bn (F_X4_rungs fl o1_rungs) fun r_111 => bn4 (F_X3_insert fl t_ladder_size t_ladder_keys t_ladder_weights t_ladder_towers r_103 r_107 r_111) fun t_ladder_size_114 t_ladder_keys_114 t_ladder_weights_114 t_ladder_towers_114 => bn (F_X4_number fl o1_number) fun r_122 => bn (F_X3_lowerKeys fl t_ladder_size_114 t_ladder_keys_114 r_122) fun r_125 => some (r_125, t_ladder_size_114, t_ladder_hidden, t_ladder_keys_114, t_ladder_weights_114, t_ladder_towers_114, t_ladder_coin_number, t_ladder_coin_tossed, t_ladder_coin_heads)) else (if r_13 = (100 : Int32) then (bn4 (F_X0_changeTower fl t_ladder_size t_ladder_keys t_ladder_weights t_ladder_towers r_8 (-1 : Int32)) fun r_155 t_ladder_keys_155 t_ladder_weights_155 t_ladder_towers_155 => some (r_155, t_ladder_size, t_ladder_hidden, t_ladder_keys_155, t_ladder_weights_155, t_ladder_towers_155, t_ladder_coin_number, t_ladder_coin_tossed, t_ladder_coin_heads)) else (if r_13 = (102 : Int32) then (bn (F_X4_number fl o1_number) fun r_164 => bn (F_X3_hide fl t_ladder_hidden r_164) fun t_ladder_hidden_167 => bn (F_X4_number fl o1_number) fun r_175 => bn (F_X3_foldersOn fl t_ladder_size t_ladder_towers r_175) fun r_178 => some (r_178, t_ladder_size, t_ladder_hidden_167, t_ladder_keys, t_ladder_weights, t_ladder_towers, t_ladder_coin_number, t_ladder_coin_tossed, t_ladder_coin_heads)) else (if r_13 = (114 : Int32) then (bn (F_X4_number fl o1_number) fun r_187 => bn (F_X3_show fl t_ladder_hidden r_187) fun t_ladder_hidden_190 => bn (F_X4_number fl o1_number) fun r_198 => bn (F_X3_foldersOn fl t_ladder_size t_ladder_towers r_198) fun r_201 => some (r_201, t_ladder_size, t_ladder_hidden_190, t_ladder_keys, t_ladder_weights, t_ladder_towers, t_ladder_coin_number, t_ladder_coin_tossed, t_ladder_coin_heads)) else (if r_13 = (117 : Int32) then (bn4 (F_X0_changeTower fl t_ladder_size t_ladder_keys t_ladder_weights t_ladder_towers r_8 (1 : Int32)) fun r_148 t_ladder_keys_148 t_ladder_weights_148 t_ladder_towers_148 => some (r_148, t_ladder_size, t_ladder_hidden, t_ladder_keys_148, t_ladder_weights_148, t_ladder_towers_148, t_ladder_coin_number, t_ladder_coin_tossed, t_ladder_coin_heads)) else (if r_13 = (119 : Int32) then (bn (F_X4_weight fl o1_weight) fun r_208 => bn4 (F_X0_changeWeight fl t_ladder_size t_ladder_keys t_ladder_weights t_ladder_towers r_8 r_208) fun r_211 t_ladder_keys_211 t_ladder_weights_211 t_ladder_towers_211 => some (r_211, t_ladder_size, t_ladder_hidden, t_ladder_keys_211, t_ladder_weights_211, t_ladder_towers_211, t_ladder_coin_number, t_ladder_coin_tossed, t_ladder_coin_heads)) else (bn (F_X3_coin fl) fun _ => bn4 (F_X1_throwIt fl t_ladder_coin_number t_ladder_coin_tossed t_ladder_coin_heads) fun r_222 t_ladder_coin_number_222 t_ladder_coin_tossed_222 t_ladder_coin_heads_222 => if r_222 = 0 then (some ((0 : Int32), t_ladder_size, t_ladder_hidden, t_ladder_keys, t_ladder_weights, t_ladder_towers, t_ladder_coin_number_222, t_ladder_coin_tossed_222, t_ladder_coin_heads_222)) else (some ((1 : Int32), t_ladder_size, t_ladder_hidden, t_ladder_keys, t_ladder_weights, t_ladder_towers, t_ladder_coin_number_222, t_ladder_coin_tossed_222, t_ladder_coin_heads_222))))))))))
theorem iX0_carryOut_X0 : ∀ w ∈ u_ws RX0 TX0 5, w ∈ wsX0_carryOut := fun w h => List.mem_cons_of_mem _ (List.mem_append_left _ (List.mem_append_left _ (List.mem_append_left _ (List.mem_append_left _ (List.mem_append_right _ h)))))
set_option maxHeartbeats 4000000 in
set_option maxRecDepth 100000 in
theorem c_X0_carryOut (l : Launch) (D : va_G) (y : Nat → ClassId) (fl : Nat) (sz : Nat) (a_t : Nat) (a_t_ladder : Nat) (a_t_ladder_keys : Nat) (a_t_ladder_weights : Nat) (a_t_ladder_towers : Nat) (a_t_ladder_coin : Nat) (a_o1 : Nat) (t_detail : Int32) (t_keptReason : Int32) (t_keptDetail : Int32) (t_keptIndex : Int32) (t_ladder_size : Int32) (t_ladder_hidden : Int32) (t_ladder_keys : Nat → Int32) (t_ladder_weights : Nat → Int32) (t_ladder_towers : Nat → Int32) (t_ladder_coin_number : Int32) (t_ladder_coin_tossed : Int32) (t_ladder_coin_heads : Int32) (o1_sign : Int32) (o1_number : Int32) (o1_weight : Int32) (o1_rungs : Int32) (r : Int32) (t_ladder_size' : Int32) (t_ladder_hidden' : Int32) (t_ladder_keys' : Nat → Int32) (t_ladder_weights' : Nat → Int32) (t_ladder_towers' : Nat → Int32) (t_ladder_coin_number' : Int32) (t_ladder_coin_tossed' : Int32) (t_ladder_coin_heads' : Int32) (hF : F_X0_carryOut fl t_ladder_size t_ladder_hidden t_ladder_keys t_ladder_weights t_ladder_towers t_ladder_coin_number t_ladder_coin_tossed t_ladder_coin_heads o1_sign o1_number o1_weight o1_rungs = some (r, t_ladder_size', t_ladder_hidden', t_ladder_keys', t_ladder_weights', t_ladder_towers', t_ladder_coin_number', t_ladder_coin_tossed', t_ladder_coin_heads')) : Met l yX0_carryOut wsX0_carryOut (rmq 4 92) (wrP D y [(a_t, .inr (4, [.ref a_t_ladder, .int t_detail, .int t_keptReason, .int t_keptDetail, .int t_keptIndex])), (a_t_ladder, .inr (7, [.ref a_t_ladder_keys, .ref a_t_ladder_weights, .ref a_t_ladder_towers, .ref a_t_ladder_coin, .int t_ladder_size, .int t_ladder_hidden])), (a_t_ladder_keys, .inl (y 0, 24, .inl t_ladder_keys)), (a_t_ladder_weights, .inl (y 0, 24, .inl t_ladder_weights)), (a_t_ladder_towers, .inl (y 0, 24, .inl t_ladder_towers)), (a_t_ladder_coin, .inr (5, [.int t_ladder_coin_number, .int t_ladder_coin_tossed, .int t_ladder_coin_heads])), (a_o1, .inr (8, [.int o1_sign, .int o1_number, .int o1_weight, .int o1_rungs]))] sz [.ref a_t, .ref a_o1]) (wQi D y r [(a_t, .inr (4, [.ref a_t_ladder, .int t_detail, .int t_keptReason, .int t_keptDetail, .int t_keptIndex])), (a_t_ladder, .inr (7, [.ref a_t_ladder_keys, .ref a_t_ladder_weights, .ref a_t_ladder_towers, .ref a_t_ladder_coin, .int t_ladder_size', .int t_ladder_hidden'])), (a_t_ladder_keys, .inl (y 0, 24, .inl t_ladder_keys')), (a_t_ladder_weights, .inl (y 0, 24, .inl t_ladder_weights')), (a_t_ladder_towers, .inl (y 0, 24, .inl t_ladder_towers')), (a_t_ladder_coin, .inr (5, [.int t_ladder_coin_number', .int t_ladder_coin_tossed', .int t_ladder_coin_heads'])), (a_o1, .inr (8, [.int o1_sign, .int o1_number, .int o1_weight, .int o1_rungs]))] [(a_t, .inr (4, [.ref a_t_ladder, .int t_detail, .int t_keptReason, .int t_keptDetail, .int t_keptIndex])), (a_t_ladder, .inr (7, [.ref a_t_ladder_keys, .ref a_t_ladder_weights, .ref a_t_ladder_towers, .ref a_t_ladder_coin, .int t_ladder_size, .int t_ladder_hidden])), (a_t_ladder_keys, .inl (y 0, 24, .inl t_ladder_keys)), (a_t_ladder_weights, .inl (y 0, 24, .inl t_ladder_weights)), (a_t_ladder_towers, .inl (y 0, 24, .inl t_ladder_towers)), (a_t_ladder_coin, .inr (5, [.int t_ladder_coin_number, .int t_ladder_coin_tossed, .int t_ladder_coin_heads])), (a_o1, .inr (8, [.int o1_sign, .int o1_number, .int o1_weight, .int o1_rungs]))] sz) 0 0 (va_A [(a_t, .inr (4, [.ref a_t_ladder, .int t_detail, .int t_keptReason, .int t_keptDetail, .int t_keptIndex])), (a_t_ladder, .inr (7, [.ref a_t_ladder_keys, .ref a_t_ladder_weights, .ref a_t_ladder_towers, .ref a_t_ladder_coin, .int t_ladder_size, .int t_ladder_hidden])), (a_t_ladder_keys, .inl (y 0, 24, .inl t_ladder_keys)), (a_t_ladder_weights, .inl (y 0, 24, .inl t_ladder_weights)), (a_t_ladder_towers, .inl (y 0, 24, .inl t_ladder_towers)), (a_t_ladder_coin, .inr (5, [.int t_ladder_coin_number, .int t_ladder_coin_tossed, .int t_ladder_coin_heads])), (a_o1, .inr (8, [.int o1_sign, .int o1_number, .int o1_weight, .int o1_rungs]))] sz) := by
  refine Met.ofW (cc := cX0_carryOut) (maxL := 3) (ret := (some .int)) (by decide) rfl ?_
  intro p e s m args below meth c s₁ B hml hv
  obtain ⟨hav, hsz, hP, hK, hD0⟩ := hv
  have hx := B.exec
  have hb := B.bytes
  have hr := B.returns
  have hts := atoms_spec (ws := wsX0_carryOut) B.pre
  have hown : s.vm.findClass RX0 = some m.cls := findClass_of_methodNamed B.named
  have hlocks := B.notSynchronized
  subst hsz
  have hD := hD0.self (sz := s.heap.size)
  obtain ⟨A, hAe⟩ : ∃ A : Nat → Prop, va_A [(a_t, .inr (4, [.ref a_t_ladder, .int t_detail, .int t_keptReason, .int t_keptDetail, .int t_keptIndex])), (a_t_ladder, .inr (7, [.ref a_t_ladder_keys, .ref a_t_ladder_weights, .ref a_t_ladder_towers, .ref a_t_ladder_coin, .int t_ladder_size, .int t_ladder_hidden])), (a_t_ladder_keys, .inl (y 0, 24, .inl t_ladder_keys)), (a_t_ladder_weights, .inl (y 0, 24, .inl t_ladder_weights)), (a_t_ladder_towers, .inl (y 0, 24, .inl t_ladder_towers)), (a_t_ladder_coin, .inr (5, [.int t_ladder_coin_number, .int t_ladder_coin_tossed, .int t_ladder_coin_heads])), (a_o1, .inr (8, [.int o1_sign, .int o1_number, .int o1_weight, .int o1_rungs]))] s.heap.size = A := ⟨_, rfl⟩
  rw [hAe] at hD
  have hA : ∀ q, s.heap.size ≤ q → A q := fun q h => by rw [← hAe]; exact Or.inr h
  have hS : va_S A s.heap s.heap [] := va_S.rf
  refine W_q (R1 := (rmq 4 92)) rfl (fun Q0 hQ0 => ?_)
  unfold F_X0_carryOut at hF
  refine W_entry hav (Nat.le_of_ble_eq_true rfl) (fun ls hl => ?_)
  have hl : lv_has ls 3 [(0, .ref a_t), (1, .ref a_o1)] := hl
  refine lv_aload_n hx hb dX0_carryOut_0 rfl (lv_at hl 0 rfl) ?_
  refine va_get (D := D) (ci := 4) (v := .ref a_t_ladder) (C := RX0) (T := TX0) (N := 5) hx hb hts iX0_carryOut_X0 hown hK hP 0 rfl rfl 0 (by decide) (hts (.fieldLink RX0 24 "SkipArchive$Clerk" "ladder" "LSkipArchive$Ladder;") (List.mem_of_getElem? (i := 1) rfl)) (fun _ h9 => h9) rfl dX0_carryOut_1 ?_
  refine lv_aload_n hx hb dX0_carryOut_4 rfl (lv_at hl 1 rfl) ?_
  obtain ⟨r_5, hq_5, hF⟩ := bn_i hF
  refine cr_V (As := []) (rest := [.ref a_t_ladder]) ⟨hx, hb, hml, hown, hts⟩ (c_X4_number l D y fl a_o1 o1_sign o1_number o1_weight o1_rungs r_5 hq_5) (cwV 0 hts gX0_carryOut_X4_number rfl rfl rfl (by decide +kernel) ⟨Nat.le_of_ble_eq_true rfl, Nat.le_of_ble_eq_true rfl⟩) hK hP [6] rfl rfl rfl rfl hl.1 rfl (Nat.le_of_ble_eq_true rfl) dX0_carryOut_5 ⟨Nat.le_of_ble_eq_true rfl, Nat.le_of_ble_eq_true rfl⟩ ?_
  obtain ⟨r_8, hq_8, hF⟩ := bn_i hF
  refine cr_V (As := [.int r_5]) (rest := []) ⟨hx, hb, hml, hown, hts⟩ (c_X3_placeWith l D y fl a_t_ladder a_t_ladder_keys a_t_ladder_weights a_t_ladder_towers a_t_ladder_coin t_ladder_size t_ladder_hidden t_ladder_keys r_5 r_8 hq_8) (cwV 1 hts gX0_carryOut_X3_placeWith rfl rfl rfl (by decide +kernel) ⟨Nat.le_of_ble_eq_true rfl, Nat.le_of_ble_eq_true rfl⟩) hK hP [1, 2] rfl rfl rfl rfl hl.1 rfl (Nat.le_of_ble_eq_true rfl) dX0_carryOut_8 ⟨Nat.le_of_ble_eq_true rfl, Nat.le_of_ble_eq_true rfl⟩ ?_
  refine lv_istore_n (lv' := [(2, .int r_8), (0, .ref a_t), (1, .ref a_o1)]) hx hb dX0_carryOut_11 rfl hl (by decide) rfl (fun ls hl => ?_)
  refine lv_aload_n hx hb dX0_carryOut_12 rfl (lv_at hl 2 rfl) ?_
  obtain ⟨r_13, hq_13, hF⟩ := bn_i hF
  refine cr_V (As := []) (rest := []) ⟨hx, hb, hml, hown, hts⟩ (c_X4_sign l D y fl a_o1 o1_sign o1_number o1_weight o1_rungs r_13 hq_13) (cwV 0 hts gX0_carryOut_X4_sign rfl rfl rfl (by decide +kernel) ⟨Nat.le_of_ble_eq_true rfl, Nat.le_of_ble_eq_true rfl⟩) hK hP [6] rfl rfl rfl rfl hl.1 rfl (Nat.le_of_ble_eq_true rfl) dX0_carryOut_13 ⟨Nat.le_of_ble_eq_true rfl, Nat.le_of_ble_eq_true rfl⟩ ?_
  by_cases c43_16 : r_13 = (43 : Int32)
  · have hF := ift hF c43_16
    refine lv_lookup (tgt := 92) hx hb dX0_carryOut_16 (by decide) (by first | (rw [c43_16]; done) | (rw [c43_16]; decide +kernel)) (by decide) ?_
    refine lv_aload_n hx hb dX0_carryOut_92 rfl (lv_at hl 1 rfl) ?_
    refine lv_aload_n hx hb dX0_carryOut_93 rfl (lv_at hl 2 rfl) ?_
    obtain ⟨r_94, t_ladder_size_94, t_ladder_keys_94, t_ladder_weights_94, t_ladder_towers_94, t_ladder_coin_number_94, t_ladder_coin_tossed_94, t_ladder_coin_heads_94, hq_94, hF⟩ := bn8_i hF
    refine cm_Vi (As := [.ref a_o1]) (rest := []) (wr := []) ⟨hx, hb, hml, hown, hts⟩ (c_X0_insertByCoins l D y fl s.heap.size a_t a_t_ladder a_t_ladder_keys a_t_ladder_weights a_t_ladder_towers a_t_ladder_coin a_o1 t_detail t_keptReason t_keptDetail t_keptIndex t_ladder_size t_ladder_hidden t_ladder_keys t_ladder_weights t_ladder_towers t_ladder_coin_number t_ladder_coin_tossed t_ladder_coin_heads o1_sign o1_number o1_weight o1_rungs r_94 t_ladder_size_94 t_ladder_keys_94 t_ladder_weights_94 t_ladder_towers_94 t_ladder_coin_number_94 t_ladder_coin_tossed_94 t_ladder_coin_heads_94 hq_94) (cwV 1 hts gX0_carryOut_X0_insertByCoins rfl rfl rfl (by decide +kernel) ⟨Nat.le_of_ble_eq_true rfl, Nat.le_of_ble_eq_true rfl⟩) hK hP hD hS hA [0, 1, 2, 3, 4, 5, 6] [] rfl rfl rfl rfl (by decide) rfl rfl rfl hl.1 rfl (Nat.le_of_ble_eq_true rfl) dX0_carryOut_94 ⟨Nat.le_of_ble_eq_true rfl, Nat.le_of_ble_eq_true rfl⟩ (fun H locs hP hD hS => ?_)
    have hP : va_P D vwCl [(a_t, .inr (4, [.ref a_t_ladder, .int t_detail, .int t_keptReason, .int t_keptDetail, .int t_keptIndex])), (a_t_ladder, .inr (7, [.ref a_t_ladder_keys, .ref a_t_ladder_weights, .ref a_t_ladder_towers, .ref a_t_ladder_coin, .int t_ladder_size_94, .int t_ladder_hidden])), (a_t_ladder_keys, .inl (y 0, 24, .inl t_ladder_keys_94)), (a_t_ladder_weights, .inl (y 0, 24, .inl t_ladder_weights_94)), (a_t_ladder_towers, .inl (y 0, 24, .inl t_ladder_towers_94)), (a_t_ladder_coin, .inr (5, [.int t_ladder_coin_number_94, .int t_ladder_coin_tossed_94, .int t_ladder_coin_heads_94])), (a_o1, .inr (8, [.int o1_sign, .int o1_number, .int o1_weight, .int o1_rungs]))] H := hP
    have hD : va_D A [(a_t, .inr (4, [.ref a_t_ladder, .int t_detail, .int t_keptReason, .int t_keptDetail, .int t_keptIndex])), (a_t_ladder, .inr (7, [.ref a_t_ladder_keys, .ref a_t_ladder_weights, .ref a_t_ladder_towers, .ref a_t_ladder_coin, .int t_ladder_size_94, .int t_ladder_hidden])), (a_t_ladder_keys, .inl (y 0, 24, .inl t_ladder_keys_94)), (a_t_ladder_weights, .inl (y 0, 24, .inl t_ladder_weights_94)), (a_t_ladder_towers, .inl (y 0, 24, .inl t_ladder_towers_94)), (a_t_ladder_coin, .inr (5, [.int t_ladder_coin_number_94, .int t_ladder_coin_tossed_94, .int t_ladder_coin_heads_94])), (a_o1, .inr (8, [.int o1_sign, .int o1_number, .int o1_weight, .int o1_rungs]))] := hD
    obtain ⟨e0_97, e1_97, e2_97, e3_97, e4_97, e5_97, e6_97, e7_97, e8_97⟩ := inj9 hF
    rw [← e0_97, ← e1_97, ← e2_97, ← e3_97, ← e4_97, ← e5_97, ← e6_97, ← e7_97, ← e8_97] at hQ0
    rw [hQ0]
    exact ret_i hx hb hr hlocks hAe hK hP hD hS [0, 1, 2, 3, 4, 5, 6] rfl rfl dX0_carryOut_97
  · have hF := iff_ hF c43_16
    by_cases c45_16 : r_13 = (45 : Int32)
    · have hF := ift hF c45_16
      refine lv_lookup (tgt := 129) hx hb dX0_carryOut_16 (by decide) (by first | (rw [c45_16]; done) | (rw [c45_16]; decide +kernel)) (by decide) ?_
      refine lv_aload_n hx hb dX0_carryOut_129 rfl (lv_at hl 1 rfl) ?_
      refine va_get (D := D) (ci := 4) (v := .ref a_t_ladder) (C := RX0) (T := TX0) (N := 5) hx hb hts iX0_carryOut_X0 hown hK hP 0 rfl rfl 0 (by decide) (hts (.fieldLink RX0 24 "SkipArchive$Clerk" "ladder" "LSkipArchive$Ladder;") (List.mem_of_getElem? (i := 1) rfl)) (fun _ h9 => h9) rfl dX0_carryOut_130 ?_
      refine lv_iload_n hx hb dX0_carryOut_133 rfl (lv_at hl 0 rfl) ?_
      obtain ⟨t_ladder_size_134, t_ladder_keys_134, t_ladder_weights_134, t_ladder_towers_134, hq_134, hF⟩ := bn4_i hF
      refine cm_Vv (As := [.int r_8]) (rest := []) (wr := [(a_t, .inr (4, [.ref a_t_ladder, .int t_detail, .int t_keptReason, .int t_keptDetail, .int t_keptIndex])), (a_t_ladder_coin, .inr (5, [.int t_ladder_coin_number, .int t_ladder_coin_tossed, .int t_ladder_coin_heads])), (a_o1, .inr (8, [.int o1_sign, .int o1_number, .int o1_weight, .int o1_rungs]))]) ⟨hx, hb, hml, hown, hts⟩ (c_X3_remove l D y fl s.heap.size a_t_ladder a_t_ladder_keys a_t_ladder_weights a_t_ladder_towers a_t_ladder_coin t_ladder_size t_ladder_hidden t_ladder_keys t_ladder_weights t_ladder_towers r_8 t_ladder_size_134 t_ladder_keys_134 t_ladder_weights_134 t_ladder_towers_134 hq_134) (cwV 1 hts gX0_carryOut_X3_remove rfl rfl rfl (by decide +kernel) ⟨Nat.le_of_ble_eq_true rfl, Nat.le_of_ble_eq_true rfl⟩) hK hP hD hS hA [1, 2, 3, 4] [0, 5, 6] rfl rfl rfl rfl (by decide) rfl rfl rfl hl.1 rfl (Nat.le_of_ble_eq_true rfl) dX0_carryOut_134 ⟨Nat.le_of_ble_eq_true rfl, Nat.le_of_ble_eq_true rfl⟩ (fun H locs hP hD hS => ?_)
      have hP : va_P D vwCl [(a_t, .inr (4, [.ref a_t_ladder, .int t_detail, .int t_keptReason, .int t_keptDetail, .int t_keptIndex])), (a_t_ladder_coin, .inr (5, [.int t_ladder_coin_number, .int t_ladder_coin_tossed, .int t_ladder_coin_heads])), (a_o1, .inr (8, [.int o1_sign, .int o1_number, .int o1_weight, .int o1_rungs])), (a_t_ladder, .inr (7, [.ref a_t_ladder_keys, .ref a_t_ladder_weights, .ref a_t_ladder_towers, .ref a_t_ladder_coin, .int t_ladder_size_134, .int t_ladder_hidden])), (a_t_ladder_keys, .inl (y 0, 24, .inl t_ladder_keys_134)), (a_t_ladder_weights, .inl (y 0, 24, .inl t_ladder_weights_134)), (a_t_ladder_towers, .inl (y 0, 24, .inl t_ladder_towers_134))] H := hP
      have hD : va_D A [(a_t, .inr (4, [.ref a_t_ladder, .int t_detail, .int t_keptReason, .int t_keptDetail, .int t_keptIndex])), (a_t_ladder_coin, .inr (5, [.int t_ladder_coin_number, .int t_ladder_coin_tossed, .int t_ladder_coin_heads])), (a_o1, .inr (8, [.int o1_sign, .int o1_number, .int o1_weight, .int o1_rungs])), (a_t_ladder, .inr (7, [.ref a_t_ladder_keys, .ref a_t_ladder_weights, .ref a_t_ladder_towers, .ref a_t_ladder_coin, .int t_ladder_size_134, .int t_ladder_hidden])), (a_t_ladder_keys, .inl (y 0, 24, .inl t_ladder_keys_134)), (a_t_ladder_weights, .inl (y 0, 24, .inl t_ladder_weights_134)), (a_t_ladder_towers, .inl (y 0, 24, .inl t_ladder_towers_134))] := hD
      refine lv_aload_n hx hb dX0_carryOut_137 rfl (lv_at hl 1 rfl) ?_
      refine va_get (D := D) (ci := 4) (v := .ref a_t_ladder) (C := RX0) (T := TX0) (N := 5) hx hb hts iX0_carryOut_X0 hown hK hP 0 rfl rfl 0 (by decide) (hts (.fieldLink RX0 24 "SkipArchive$Clerk" "ladder" "LSkipArchive$Ladder;") (List.mem_of_getElem? (i := 1) rfl)) (fun _ h9 => h9) rfl dX0_carryOut_138 ?_
      obtain ⟨r_141, hq_141, hF⟩ := bn_i hF
      refine cr_V (As := []) (rest := []) ⟨hx, hb, hml, hown, hts⟩ (c_X3_size l D y fl a_t_ladder a_t_ladder_keys a_t_ladder_weights a_t_ladder_towers a_t_ladder_coin t_ladder_size_134 t_ladder_hidden r_141 hq_141) (cwV 0 hts gX0_carryOut_X3_size rfl rfl rfl (by decide +kernel) ⟨Nat.le_of_ble_eq_true rfl, Nat.le_of_ble_eq_true rfl⟩) hK hP [3] rfl rfl rfl rfl hl.1 rfl (Nat.le_of_ble_eq_true rfl) dX0_carryOut_141 ⟨Nat.le_of_ble_eq_true rfl, Nat.le_of_ble_eq_true rfl⟩ ?_
      obtain ⟨e0_144, e1_144, e2_144, e3_144, e4_144, e5_144, e6_144, e7_144, e8_144⟩ := inj9 hF
      rw [← e0_144, ← e1_144, ← e2_144, ← e3_144, ← e4_144, ← e5_144, ← e6_144, ← e7_144, ← e8_144] at hQ0
      rw [hQ0]
      exact ret_i hx hb hr hlocks hAe hK hP hD hS [0, 3, 4, 5, 6, 1, 2] rfl rfl dX0_carryOut_144
    · have hF := iff_ hF c45_16
      by_cases c94_16 : r_13 = (94 : Int32)
      · have hF := ift hF c94_16
        refine lv_lookup (tgt := 98) hx hb dX0_carryOut_16 (by decide) (by first | (rw [c94_16]; done) | (rw [c94_16]; decide +kernel)) (by decide) ?_
        refine lv_aload_n hx hb dX0_carryOut_98 rfl (lv_at hl 1 rfl) ?_
        refine va_get (D := D) (ci := 4) (v := .ref a_t_ladder) (C := RX0) (T := TX0) (N := 5) hx hb hts iX0_carryOut_X0 hown hK hP 0 rfl rfl 0 (by decide) (hts (.fieldLink RX0 24 "SkipArchive$Clerk" "ladder" "LSkipArchive$Ladder;") (List.mem_of_getElem? (i := 1) rfl)) (fun _ h9 => h9) rfl dX0_carryOut_99 ?_
        refine lv_aload_n hx hb dX0_carryOut_102 rfl (lv_at hl 2 rfl) ?_
        obtain ⟨r_103, hq_103, hF⟩ := bn_i hF
        refine cr_V (As := []) (rest := [.ref a_t_ladder]) ⟨hx, hb, hml, hown, hts⟩ (c_X4_number l D y fl a_o1 o1_sign o1_number o1_weight o1_rungs r_103 hq_103) (cwV 0 hts gX0_carryOut_X4_number rfl rfl rfl (by decide +kernel) ⟨Nat.le_of_ble_eq_true rfl, Nat.le_of_ble_eq_true rfl⟩) hK hP [6] rfl rfl rfl rfl hl.1 rfl (Nat.le_of_ble_eq_true rfl) dX0_carryOut_103 ⟨Nat.le_of_ble_eq_true rfl, Nat.le_of_ble_eq_true rfl⟩ ?_
        refine lv_aload_n hx hb dX0_carryOut_106 rfl (lv_at hl 2 rfl) ?_
        obtain ⟨r_107, hq_107, hF⟩ := bn_i hF
        refine cr_V (As := []) (rest := [.int r_103, .ref a_t_ladder]) ⟨hx, hb, hml, hown, hts⟩ (c_X4_weight l D y fl a_o1 o1_sign o1_number o1_weight o1_rungs r_107 hq_107) (cwV 0 hts gX0_carryOut_X4_weight rfl rfl rfl (by decide +kernel) ⟨Nat.le_of_ble_eq_true rfl, Nat.le_of_ble_eq_true rfl⟩) hK hP [6] rfl rfl rfl rfl hl.1 rfl (Nat.le_of_ble_eq_true rfl) dX0_carryOut_107 ⟨Nat.le_of_ble_eq_true rfl, Nat.le_of_ble_eq_true rfl⟩ ?_
        refine lv_aload_n hx hb dX0_carryOut_110 rfl (lv_at hl 2 rfl) ?_
        obtain ⟨r_111, hq_111, hF⟩ := bn_i hF
        refine cr_V (As := []) (rest := [.int r_107, .int r_103, .ref a_t_ladder]) ⟨hx, hb, hml, hown, hts⟩ (c_X4_rungs l D y fl a_o1 o1_sign o1_number o1_weight o1_rungs r_111 hq_111) (cwV 0 hts gX0_carryOut_X4_rungs rfl rfl rfl (by decide +kernel) ⟨Nat.le_of_ble_eq_true rfl, Nat.le_of_ble_eq_true rfl⟩) hK hP [6] rfl rfl rfl rfl hl.1 rfl (Nat.le_of_ble_eq_true rfl) dX0_carryOut_111 ⟨Nat.le_of_ble_eq_true rfl, Nat.le_of_ble_eq_true rfl⟩ ?_
        obtain ⟨t_ladder_size_114, t_ladder_keys_114, t_ladder_weights_114, t_ladder_towers_114, hq_114, hF⟩ := bn4_i hF
        refine cm_Vv (As := [.int r_103, .int r_107, .int r_111]) (rest := []) (wr := [(a_t, .inr (4, [.ref a_t_ladder, .int t_detail, .int t_keptReason, .int t_keptDetail, .int t_keptIndex])), (a_t_ladder_coin, .inr (5, [.int t_ladder_coin_number, .int t_ladder_coin_tossed, .int t_ladder_coin_heads])), (a_o1, .inr (8, [.int o1_sign, .int o1_number, .int o1_weight, .int o1_rungs]))]) ⟨hx, hb, hml, hown, hts⟩ (c_X3_insert l D y fl s.heap.size a_t_ladder a_t_ladder_keys a_t_ladder_weights a_t_ladder_towers a_t_ladder_coin t_ladder_size t_ladder_hidden t_ladder_keys t_ladder_weights t_ladder_towers r_103 r_107 r_111 t_ladder_size_114 t_ladder_keys_114 t_ladder_weights_114 t_ladder_towers_114 hq_114) (cwV 3 hts gX0_carryOut_X3_insert rfl rfl rfl (by decide +kernel) ⟨Nat.le_of_ble_eq_true rfl, Nat.le_of_ble_eq_true rfl⟩) hK hP hD hS hA [1, 2, 3, 4] [0, 5, 6] rfl rfl rfl rfl (by decide) rfl rfl rfl hl.1 rfl (Nat.le_of_ble_eq_true rfl) dX0_carryOut_114 ⟨Nat.le_of_ble_eq_true rfl, Nat.le_of_ble_eq_true rfl⟩ (fun H locs hP hD hS => ?_)
        have hP : va_P D vwCl [(a_t, .inr (4, [.ref a_t_ladder, .int t_detail, .int t_keptReason, .int t_keptDetail, .int t_keptIndex])), (a_t_ladder_coin, .inr (5, [.int t_ladder_coin_number, .int t_ladder_coin_tossed, .int t_ladder_coin_heads])), (a_o1, .inr (8, [.int o1_sign, .int o1_number, .int o1_weight, .int o1_rungs])), (a_t_ladder, .inr (7, [.ref a_t_ladder_keys, .ref a_t_ladder_weights, .ref a_t_ladder_towers, .ref a_t_ladder_coin, .int t_ladder_size_114, .int t_ladder_hidden])), (a_t_ladder_keys, .inl (y 0, 24, .inl t_ladder_keys_114)), (a_t_ladder_weights, .inl (y 0, 24, .inl t_ladder_weights_114)), (a_t_ladder_towers, .inl (y 0, 24, .inl t_ladder_towers_114))] H := hP
        have hD : va_D A [(a_t, .inr (4, [.ref a_t_ladder, .int t_detail, .int t_keptReason, .int t_keptDetail, .int t_keptIndex])), (a_t_ladder_coin, .inr (5, [.int t_ladder_coin_number, .int t_ladder_coin_tossed, .int t_ladder_coin_heads])), (a_o1, .inr (8, [.int o1_sign, .int o1_number, .int o1_weight, .int o1_rungs])), (a_t_ladder, .inr (7, [.ref a_t_ladder_keys, .ref a_t_ladder_weights, .ref a_t_ladder_towers, .ref a_t_ladder_coin, .int t_ladder_size_114, .int t_ladder_hidden])), (a_t_ladder_keys, .inl (y 0, 24, .inl t_ladder_keys_114)), (a_t_ladder_weights, .inl (y 0, 24, .inl t_ladder_weights_114)), (a_t_ladder_towers, .inl (y 0, 24, .inl t_ladder_towers_114))] := hD
        refine lv_aload_n hx hb dX0_carryOut_117 rfl (lv_at hl 1 rfl) ?_
        refine va_get (D := D) (ci := 4) (v := .ref a_t_ladder) (C := RX0) (T := TX0) (N := 5) hx hb hts iX0_carryOut_X0 hown hK hP 0 rfl rfl 0 (by decide) (hts (.fieldLink RX0 24 "SkipArchive$Clerk" "ladder" "LSkipArchive$Ladder;") (List.mem_of_getElem? (i := 1) rfl)) (fun _ h9 => h9) rfl dX0_carryOut_118 ?_
        refine lv_aload_n hx hb dX0_carryOut_121 rfl (lv_at hl 2 rfl) ?_
        obtain ⟨r_122, hq_122, hF⟩ := bn_i hF
        refine cr_V (As := []) (rest := [.ref a_t_ladder]) ⟨hx, hb, hml, hown, hts⟩ (c_X4_number l D y fl a_o1 o1_sign o1_number o1_weight o1_rungs r_122 hq_122) (cwV 0 hts gX0_carryOut_X4_number rfl rfl rfl (by decide +kernel) ⟨Nat.le_of_ble_eq_true rfl, Nat.le_of_ble_eq_true rfl⟩) hK hP [2] rfl rfl rfl rfl hl.1 rfl (Nat.le_of_ble_eq_true rfl) dX0_carryOut_122 ⟨Nat.le_of_ble_eq_true rfl, Nat.le_of_ble_eq_true rfl⟩ ?_
        obtain ⟨r_125, hq_125, hF⟩ := bn_i hF
        refine cr_V (As := [.int r_122]) (rest := []) ⟨hx, hb, hml, hown, hts⟩ (c_X3_lowerKeys l D y fl a_t_ladder a_t_ladder_keys a_t_ladder_weights a_t_ladder_towers a_t_ladder_coin t_ladder_size_114 t_ladder_hidden t_ladder_keys_114 r_122 r_125 hq_125) (cwV 1 hts gX0_carryOut_X3_lowerKeys rfl rfl rfl (by decide +kernel) ⟨Nat.le_of_ble_eq_true rfl, Nat.le_of_ble_eq_true rfl⟩) hK hP [3, 4] rfl rfl rfl rfl hl.1 rfl (Nat.le_of_ble_eq_true rfl) dX0_carryOut_125 ⟨Nat.le_of_ble_eq_true rfl, Nat.le_of_ble_eq_true rfl⟩ ?_
        obtain ⟨e0_128, e1_128, e2_128, e3_128, e4_128, e5_128, e6_128, e7_128, e8_128⟩ := inj9 hF
        rw [← e0_128, ← e1_128, ← e2_128, ← e3_128, ← e4_128, ← e5_128, ← e6_128, ← e7_128, ← e8_128] at hQ0
        rw [hQ0]
        exact ret_i hx hb hr hlocks hAe hK hP hD hS [0, 3, 4, 5, 6, 1, 2] rfl rfl dX0_carryOut_128
      · have hF := iff_ hF c94_16
        by_cases c100_16 : r_13 = (100 : Int32)
        · have hF := ift hF c100_16
          refine lv_lookup (tgt := 152) hx hb dX0_carryOut_16 (by decide) (by first | (rw [c100_16]; done) | (rw [c100_16]; decide +kernel)) (by decide) ?_
          refine lv_aload_n hx hb dX0_carryOut_152 rfl (lv_at hl 1 rfl) ?_
          refine lv_iload_n hx hb dX0_carryOut_153 rfl (lv_at hl 0 rfl) ?_
          refine lv_iconst (v := -1) hx hb dX0_carryOut_154 (by decide) ?_
          obtain ⟨r_155, t_ladder_keys_155, t_ladder_weights_155, t_ladder_towers_155, hq_155, hF⟩ := bn4_i hF
          refine cm_Vi (As := [.int r_8, .int (-1 : Int32)]) (rest := []) (wr := [(a_t_ladder_coin, .inr (5, [.int t_ladder_coin_number, .int t_ladder_coin_tossed, .int t_ladder_coin_heads])), (a_o1, .inr (8, [.int o1_sign, .int o1_number, .int o1_weight, .int o1_rungs]))]) ⟨hx, hb, hml, hown, hts⟩ (c_X0_changeTower l D y fl s.heap.size a_t a_t_ladder a_t_ladder_keys a_t_ladder_weights a_t_ladder_towers a_t_ladder_coin t_detail t_keptReason t_keptDetail t_keptIndex t_ladder_size t_ladder_hidden t_ladder_keys t_ladder_weights t_ladder_towers r_8 (-1 : Int32) r_155 t_ladder_keys_155 t_ladder_weights_155 t_ladder_towers_155 hq_155) (cwV 2 hts gX0_carryOut_X0_changeTower rfl rfl rfl (by decide +kernel) ⟨Nat.le_of_ble_eq_true rfl, Nat.le_of_ble_eq_true rfl⟩) hK hP hD hS hA [0, 1, 2, 3, 4] [5, 6] rfl rfl rfl rfl (by decide) rfl rfl rfl hl.1 rfl (Nat.le_of_ble_eq_true rfl) dX0_carryOut_155 ⟨Nat.le_of_ble_eq_true rfl, Nat.le_of_ble_eq_true rfl⟩ (fun H locs hP hD hS => ?_)
          have hP : va_P D vwCl [(a_t_ladder_coin, .inr (5, [.int t_ladder_coin_number, .int t_ladder_coin_tossed, .int t_ladder_coin_heads])), (a_o1, .inr (8, [.int o1_sign, .int o1_number, .int o1_weight, .int o1_rungs])), (a_t, .inr (4, [.ref a_t_ladder, .int t_detail, .int t_keptReason, .int t_keptDetail, .int t_keptIndex])), (a_t_ladder, .inr (7, [.ref a_t_ladder_keys, .ref a_t_ladder_weights, .ref a_t_ladder_towers, .ref a_t_ladder_coin, .int t_ladder_size, .int t_ladder_hidden])), (a_t_ladder_keys, .inl (y 0, 24, .inl t_ladder_keys_155)), (a_t_ladder_weights, .inl (y 0, 24, .inl t_ladder_weights_155)), (a_t_ladder_towers, .inl (y 0, 24, .inl t_ladder_towers_155))] H := hP
          have hD : va_D A [(a_t_ladder_coin, .inr (5, [.int t_ladder_coin_number, .int t_ladder_coin_tossed, .int t_ladder_coin_heads])), (a_o1, .inr (8, [.int o1_sign, .int o1_number, .int o1_weight, .int o1_rungs])), (a_t, .inr (4, [.ref a_t_ladder, .int t_detail, .int t_keptReason, .int t_keptDetail, .int t_keptIndex])), (a_t_ladder, .inr (7, [.ref a_t_ladder_keys, .ref a_t_ladder_weights, .ref a_t_ladder_towers, .ref a_t_ladder_coin, .int t_ladder_size, .int t_ladder_hidden])), (a_t_ladder_keys, .inl (y 0, 24, .inl t_ladder_keys_155)), (a_t_ladder_weights, .inl (y 0, 24, .inl t_ladder_weights_155)), (a_t_ladder_towers, .inl (y 0, 24, .inl t_ladder_towers_155))] := hD
          obtain ⟨e0_158, e1_158, e2_158, e3_158, e4_158, e5_158, e6_158, e7_158, e8_158⟩ := inj9 hF
          rw [← e0_158, ← e1_158, ← e2_158, ← e3_158, ← e4_158, ← e5_158, ← e6_158, ← e7_158, ← e8_158] at hQ0
          rw [hQ0]
          exact ret_i hx hb hr hlocks hAe hK hP hD hS [2, 3, 4, 5, 6, 0, 1] rfl rfl dX0_carryOut_158
        · have hF := iff_ hF c100_16
          by_cases c102_16 : r_13 = (102 : Int32)
          · have hF := ift hF c102_16
            refine lv_lookup (tgt := 159) hx hb dX0_carryOut_16 (by decide) (by first | (rw [c102_16]; done) | (rw [c102_16]; decide +kernel)) (by decide) ?_
            refine lv_aload_n hx hb dX0_carryOut_159 rfl (lv_at hl 1 rfl) ?_
            refine va_get (D := D) (ci := 4) (v := .ref a_t_ladder) (C := RX0) (T := TX0) (N := 5) hx hb hts iX0_carryOut_X0 hown hK hP 0 rfl rfl 0 (by decide) (hts (.fieldLink RX0 24 "SkipArchive$Clerk" "ladder" "LSkipArchive$Ladder;") (List.mem_of_getElem? (i := 1) rfl)) (fun _ h9 => h9) rfl dX0_carryOut_160 ?_
            refine lv_aload_n hx hb dX0_carryOut_163 rfl (lv_at hl 2 rfl) ?_
            obtain ⟨r_164, hq_164, hF⟩ := bn_i hF
            refine cr_V (As := []) (rest := [.ref a_t_ladder]) ⟨hx, hb, hml, hown, hts⟩ (c_X4_number l D y fl a_o1 o1_sign o1_number o1_weight o1_rungs r_164 hq_164) (cwV 0 hts gX0_carryOut_X4_number rfl rfl rfl (by decide +kernel) ⟨Nat.le_of_ble_eq_true rfl, Nat.le_of_ble_eq_true rfl⟩) hK hP [6] rfl rfl rfl rfl hl.1 rfl (Nat.le_of_ble_eq_true rfl) dX0_carryOut_164 ⟨Nat.le_of_ble_eq_true rfl, Nat.le_of_ble_eq_true rfl⟩ ?_
            obtain ⟨t_ladder_hidden_167, hq_167, hF⟩ := bn_i hF
            refine cm_Vv (As := [.int r_164]) (rest := []) (wr := [(a_t, .inr (4, [.ref a_t_ladder, .int t_detail, .int t_keptReason, .int t_keptDetail, .int t_keptIndex])), (a_t_ladder_keys, .inl (y 0, 24, .inl t_ladder_keys)), (a_t_ladder_weights, .inl (y 0, 24, .inl t_ladder_weights)), (a_t_ladder_towers, .inl (y 0, 24, .inl t_ladder_towers)), (a_t_ladder_coin, .inr (5, [.int t_ladder_coin_number, .int t_ladder_coin_tossed, .int t_ladder_coin_heads])), (a_o1, .inr (8, [.int o1_sign, .int o1_number, .int o1_weight, .int o1_rungs]))]) ⟨hx, hb, hml, hown, hts⟩ (c_X3_hide l D y fl s.heap.size a_t_ladder a_t_ladder_keys a_t_ladder_weights a_t_ladder_towers a_t_ladder_coin t_ladder_size t_ladder_hidden r_164 t_ladder_hidden_167 hq_167) (cwV 1 hts gX0_carryOut_X3_hide rfl rfl rfl (by decide +kernel) ⟨Nat.le_of_ble_eq_true rfl, Nat.le_of_ble_eq_true rfl⟩) hK hP hD hS hA [1] [0, 2, 3, 4, 5, 6] rfl rfl rfl rfl (by decide) rfl rfl rfl hl.1 rfl (Nat.le_of_ble_eq_true rfl) dX0_carryOut_167 ⟨Nat.le_of_ble_eq_true rfl, Nat.le_of_ble_eq_true rfl⟩ (fun H locs hP hD hS => ?_)
            have hP : va_P D vwCl [(a_t, .inr (4, [.ref a_t_ladder, .int t_detail, .int t_keptReason, .int t_keptDetail, .int t_keptIndex])), (a_t_ladder_keys, .inl (y 0, 24, .inl t_ladder_keys)), (a_t_ladder_weights, .inl (y 0, 24, .inl t_ladder_weights)), (a_t_ladder_towers, .inl (y 0, 24, .inl t_ladder_towers)), (a_t_ladder_coin, .inr (5, [.int t_ladder_coin_number, .int t_ladder_coin_tossed, .int t_ladder_coin_heads])), (a_o1, .inr (8, [.int o1_sign, .int o1_number, .int o1_weight, .int o1_rungs])), (a_t_ladder, .inr (7, [.ref a_t_ladder_keys, .ref a_t_ladder_weights, .ref a_t_ladder_towers, .ref a_t_ladder_coin, .int t_ladder_size, .int t_ladder_hidden_167]))] H := hP
            have hD : va_D A [(a_t, .inr (4, [.ref a_t_ladder, .int t_detail, .int t_keptReason, .int t_keptDetail, .int t_keptIndex])), (a_t_ladder_keys, .inl (y 0, 24, .inl t_ladder_keys)), (a_t_ladder_weights, .inl (y 0, 24, .inl t_ladder_weights)), (a_t_ladder_towers, .inl (y 0, 24, .inl t_ladder_towers)), (a_t_ladder_coin, .inr (5, [.int t_ladder_coin_number, .int t_ladder_coin_tossed, .int t_ladder_coin_heads])), (a_o1, .inr (8, [.int o1_sign, .int o1_number, .int o1_weight, .int o1_rungs])), (a_t_ladder, .inr (7, [.ref a_t_ladder_keys, .ref a_t_ladder_weights, .ref a_t_ladder_towers, .ref a_t_ladder_coin, .int t_ladder_size, .int t_ladder_hidden_167]))] := hD
            refine lv_aload_n hx hb dX0_carryOut_170 rfl (lv_at hl 1 rfl) ?_
            refine va_get (D := D) (ci := 4) (v := .ref a_t_ladder) (C := RX0) (T := TX0) (N := 5) hx hb hts iX0_carryOut_X0 hown hK hP 0 rfl rfl 0 (by decide) (hts (.fieldLink RX0 24 "SkipArchive$Clerk" "ladder" "LSkipArchive$Ladder;") (List.mem_of_getElem? (i := 1) rfl)) (fun _ h9 => h9) rfl dX0_carryOut_171 ?_
            refine lv_aload_n hx hb dX0_carryOut_174 rfl (lv_at hl 2 rfl) ?_
            obtain ⟨r_175, hq_175, hF⟩ := bn_i hF
            refine cr_V (As := []) (rest := [.ref a_t_ladder]) ⟨hx, hb, hml, hown, hts⟩ (c_X4_number l D y fl a_o1 o1_sign o1_number o1_weight o1_rungs r_175 hq_175) (cwV 0 hts gX0_carryOut_X4_number rfl rfl rfl (by decide +kernel) ⟨Nat.le_of_ble_eq_true rfl, Nat.le_of_ble_eq_true rfl⟩) hK hP [5] rfl rfl rfl rfl hl.1 rfl (Nat.le_of_ble_eq_true rfl) dX0_carryOut_175 ⟨Nat.le_of_ble_eq_true rfl, Nat.le_of_ble_eq_true rfl⟩ ?_
            obtain ⟨r_178, hq_178, hF⟩ := bn_i hF
            refine cr_V (As := [.int r_175]) (rest := []) ⟨hx, hb, hml, hown, hts⟩ (c_X3_foldersOn l D y fl a_t_ladder a_t_ladder_keys a_t_ladder_weights a_t_ladder_towers a_t_ladder_coin t_ladder_size t_ladder_hidden_167 t_ladder_towers r_175 r_178 hq_178) (cwV 1 hts gX0_carryOut_X3_foldersOn rfl rfl rfl (by decide +kernel) ⟨Nat.le_of_ble_eq_true rfl, Nat.le_of_ble_eq_true rfl⟩) hK hP [6, 3] rfl rfl rfl rfl hl.1 rfl (Nat.le_of_ble_eq_true rfl) dX0_carryOut_178 ⟨Nat.le_of_ble_eq_true rfl, Nat.le_of_ble_eq_true rfl⟩ ?_
            obtain ⟨e0_181, e1_181, e2_181, e3_181, e4_181, e5_181, e6_181, e7_181, e8_181⟩ := inj9 hF
            rw [← e0_181, ← e1_181, ← e2_181, ← e3_181, ← e4_181, ← e5_181, ← e6_181, ← e7_181, ← e8_181] at hQ0
            rw [hQ0]
            exact ret_i hx hb hr hlocks hAe hK hP hD hS [0, 6, 1, 2, 3, 4, 5] rfl rfl dX0_carryOut_181
          · have hF := iff_ hF c102_16
            by_cases c114_16 : r_13 = (114 : Int32)
            · have hF := ift hF c114_16
              refine lv_lookup (tgt := 182) hx hb dX0_carryOut_16 (by decide) (by first | (rw [c114_16]; done) | (rw [c114_16]; decide +kernel)) (by decide) ?_
              refine lv_aload_n hx hb dX0_carryOut_182 rfl (lv_at hl 1 rfl) ?_
              refine va_get (D := D) (ci := 4) (v := .ref a_t_ladder) (C := RX0) (T := TX0) (N := 5) hx hb hts iX0_carryOut_X0 hown hK hP 0 rfl rfl 0 (by decide) (hts (.fieldLink RX0 24 "SkipArchive$Clerk" "ladder" "LSkipArchive$Ladder;") (List.mem_of_getElem? (i := 1) rfl)) (fun _ h9 => h9) rfl dX0_carryOut_183 ?_
              refine lv_aload_n hx hb dX0_carryOut_186 rfl (lv_at hl 2 rfl) ?_
              obtain ⟨r_187, hq_187, hF⟩ := bn_i hF
              refine cr_V (As := []) (rest := [.ref a_t_ladder]) ⟨hx, hb, hml, hown, hts⟩ (c_X4_number l D y fl a_o1 o1_sign o1_number o1_weight o1_rungs r_187 hq_187) (cwV 0 hts gX0_carryOut_X4_number rfl rfl rfl (by decide +kernel) ⟨Nat.le_of_ble_eq_true rfl, Nat.le_of_ble_eq_true rfl⟩) hK hP [6] rfl rfl rfl rfl hl.1 rfl (Nat.le_of_ble_eq_true rfl) dX0_carryOut_187 ⟨Nat.le_of_ble_eq_true rfl, Nat.le_of_ble_eq_true rfl⟩ ?_
              obtain ⟨t_ladder_hidden_190, hq_190, hF⟩ := bn_i hF
              refine cm_Vv (As := [.int r_187]) (rest := []) (wr := [(a_t, .inr (4, [.ref a_t_ladder, .int t_detail, .int t_keptReason, .int t_keptDetail, .int t_keptIndex])), (a_t_ladder_keys, .inl (y 0, 24, .inl t_ladder_keys)), (a_t_ladder_weights, .inl (y 0, 24, .inl t_ladder_weights)), (a_t_ladder_towers, .inl (y 0, 24, .inl t_ladder_towers)), (a_t_ladder_coin, .inr (5, [.int t_ladder_coin_number, .int t_ladder_coin_tossed, .int t_ladder_coin_heads])), (a_o1, .inr (8, [.int o1_sign, .int o1_number, .int o1_weight, .int o1_rungs]))]) ⟨hx, hb, hml, hown, hts⟩ (c_X3_show l D y fl s.heap.size a_t_ladder a_t_ladder_keys a_t_ladder_weights a_t_ladder_towers a_t_ladder_coin t_ladder_size t_ladder_hidden r_187 t_ladder_hidden_190 hq_190) (cwV 1 hts gX0_carryOut_X3_show rfl rfl rfl (by decide +kernel) ⟨Nat.le_of_ble_eq_true rfl, Nat.le_of_ble_eq_true rfl⟩) hK hP hD hS hA [1] [0, 2, 3, 4, 5, 6] rfl rfl rfl rfl (by decide) rfl rfl rfl hl.1 rfl (Nat.le_of_ble_eq_true rfl) dX0_carryOut_190 ⟨Nat.le_of_ble_eq_true rfl, Nat.le_of_ble_eq_true rfl⟩ (fun H locs hP hD hS => ?_)
              have hP : va_P D vwCl [(a_t, .inr (4, [.ref a_t_ladder, .int t_detail, .int t_keptReason, .int t_keptDetail, .int t_keptIndex])), (a_t_ladder_keys, .inl (y 0, 24, .inl t_ladder_keys)), (a_t_ladder_weights, .inl (y 0, 24, .inl t_ladder_weights)), (a_t_ladder_towers, .inl (y 0, 24, .inl t_ladder_towers)), (a_t_ladder_coin, .inr (5, [.int t_ladder_coin_number, .int t_ladder_coin_tossed, .int t_ladder_coin_heads])), (a_o1, .inr (8, [.int o1_sign, .int o1_number, .int o1_weight, .int o1_rungs])), (a_t_ladder, .inr (7, [.ref a_t_ladder_keys, .ref a_t_ladder_weights, .ref a_t_ladder_towers, .ref a_t_ladder_coin, .int t_ladder_size, .int t_ladder_hidden_190]))] H := hP
              have hD : va_D A [(a_t, .inr (4, [.ref a_t_ladder, .int t_detail, .int t_keptReason, .int t_keptDetail, .int t_keptIndex])), (a_t_ladder_keys, .inl (y 0, 24, .inl t_ladder_keys)), (a_t_ladder_weights, .inl (y 0, 24, .inl t_ladder_weights)), (a_t_ladder_towers, .inl (y 0, 24, .inl t_ladder_towers)), (a_t_ladder_coin, .inr (5, [.int t_ladder_coin_number, .int t_ladder_coin_tossed, .int t_ladder_coin_heads])), (a_o1, .inr (8, [.int o1_sign, .int o1_number, .int o1_weight, .int o1_rungs])), (a_t_ladder, .inr (7, [.ref a_t_ladder_keys, .ref a_t_ladder_weights, .ref a_t_ladder_towers, .ref a_t_ladder_coin, .int t_ladder_size, .int t_ladder_hidden_190]))] := hD
              refine lv_aload_n hx hb dX0_carryOut_193 rfl (lv_at hl 1 rfl) ?_
              refine va_get (D := D) (ci := 4) (v := .ref a_t_ladder) (C := RX0) (T := TX0) (N := 5) hx hb hts iX0_carryOut_X0 hown hK hP 0 rfl rfl 0 (by decide) (hts (.fieldLink RX0 24 "SkipArchive$Clerk" "ladder" "LSkipArchive$Ladder;") (List.mem_of_getElem? (i := 1) rfl)) (fun _ h9 => h9) rfl dX0_carryOut_194 ?_
              refine lv_aload_n hx hb dX0_carryOut_197 rfl (lv_at hl 2 rfl) ?_
              obtain ⟨r_198, hq_198, hF⟩ := bn_i hF
              refine cr_V (As := []) (rest := [.ref a_t_ladder]) ⟨hx, hb, hml, hown, hts⟩ (c_X4_number l D y fl a_o1 o1_sign o1_number o1_weight o1_rungs r_198 hq_198) (cwV 0 hts gX0_carryOut_X4_number rfl rfl rfl (by decide +kernel) ⟨Nat.le_of_ble_eq_true rfl, Nat.le_of_ble_eq_true rfl⟩) hK hP [5] rfl rfl rfl rfl hl.1 rfl (Nat.le_of_ble_eq_true rfl) dX0_carryOut_198 ⟨Nat.le_of_ble_eq_true rfl, Nat.le_of_ble_eq_true rfl⟩ ?_
              obtain ⟨r_201, hq_201, hF⟩ := bn_i hF
              refine cr_V (As := [.int r_198]) (rest := []) ⟨hx, hb, hml, hown, hts⟩ (c_X3_foldersOn l D y fl a_t_ladder a_t_ladder_keys a_t_ladder_weights a_t_ladder_towers a_t_ladder_coin t_ladder_size t_ladder_hidden_190 t_ladder_towers r_198 r_201 hq_201) (cwV 1 hts gX0_carryOut_X3_foldersOn rfl rfl rfl (by decide +kernel) ⟨Nat.le_of_ble_eq_true rfl, Nat.le_of_ble_eq_true rfl⟩) hK hP [6, 3] rfl rfl rfl rfl hl.1 rfl (Nat.le_of_ble_eq_true rfl) dX0_carryOut_201 ⟨Nat.le_of_ble_eq_true rfl, Nat.le_of_ble_eq_true rfl⟩ ?_
              obtain ⟨e0_204, e1_204, e2_204, e3_204, e4_204, e5_204, e6_204, e7_204, e8_204⟩ := inj9 hF
              rw [← e0_204, ← e1_204, ← e2_204, ← e3_204, ← e4_204, ← e5_204, ← e6_204, ← e7_204, ← e8_204] at hQ0
              rw [hQ0]
              exact ret_i hx hb hr hlocks hAe hK hP hD hS [0, 6, 1, 2, 3, 4, 5] rfl rfl dX0_carryOut_204
            · have hF := iff_ hF c114_16
              by_cases c117_16 : r_13 = (117 : Int32)
              · have hF := ift hF c117_16
                refine lv_lookup (tgt := 145) hx hb dX0_carryOut_16 (by decide) (by first | (rw [c117_16]; done) | (rw [c117_16]; decide +kernel)) (by decide) ?_
                refine lv_aload_n hx hb dX0_carryOut_145 rfl (lv_at hl 1 rfl) ?_
                refine lv_iload_n hx hb dX0_carryOut_146 rfl (lv_at hl 0 rfl) ?_
                refine lv_iconst (v := 1) hx hb dX0_carryOut_147 (by decide) ?_
                obtain ⟨r_148, t_ladder_keys_148, t_ladder_weights_148, t_ladder_towers_148, hq_148, hF⟩ := bn4_i hF
                refine cm_Vi (As := [.int r_8, .int (1 : Int32)]) (rest := []) (wr := [(a_t_ladder_coin, .inr (5, [.int t_ladder_coin_number, .int t_ladder_coin_tossed, .int t_ladder_coin_heads])), (a_o1, .inr (8, [.int o1_sign, .int o1_number, .int o1_weight, .int o1_rungs]))]) ⟨hx, hb, hml, hown, hts⟩ (c_X0_changeTower l D y fl s.heap.size a_t a_t_ladder a_t_ladder_keys a_t_ladder_weights a_t_ladder_towers a_t_ladder_coin t_detail t_keptReason t_keptDetail t_keptIndex t_ladder_size t_ladder_hidden t_ladder_keys t_ladder_weights t_ladder_towers r_8 (1 : Int32) r_148 t_ladder_keys_148 t_ladder_weights_148 t_ladder_towers_148 hq_148) (cwV 2 hts gX0_carryOut_X0_changeTower rfl rfl rfl (by decide +kernel) ⟨Nat.le_of_ble_eq_true rfl, Nat.le_of_ble_eq_true rfl⟩) hK hP hD hS hA [0, 1, 2, 3, 4] [5, 6] rfl rfl rfl rfl (by decide) rfl rfl rfl hl.1 rfl (Nat.le_of_ble_eq_true rfl) dX0_carryOut_148 ⟨Nat.le_of_ble_eq_true rfl, Nat.le_of_ble_eq_true rfl⟩ (fun H locs hP hD hS => ?_)
                have hP : va_P D vwCl [(a_t_ladder_coin, .inr (5, [.int t_ladder_coin_number, .int t_ladder_coin_tossed, .int t_ladder_coin_heads])), (a_o1, .inr (8, [.int o1_sign, .int o1_number, .int o1_weight, .int o1_rungs])), (a_t, .inr (4, [.ref a_t_ladder, .int t_detail, .int t_keptReason, .int t_keptDetail, .int t_keptIndex])), (a_t_ladder, .inr (7, [.ref a_t_ladder_keys, .ref a_t_ladder_weights, .ref a_t_ladder_towers, .ref a_t_ladder_coin, .int t_ladder_size, .int t_ladder_hidden])), (a_t_ladder_keys, .inl (y 0, 24, .inl t_ladder_keys_148)), (a_t_ladder_weights, .inl (y 0, 24, .inl t_ladder_weights_148)), (a_t_ladder_towers, .inl (y 0, 24, .inl t_ladder_towers_148))] H := hP
                have hD : va_D A [(a_t_ladder_coin, .inr (5, [.int t_ladder_coin_number, .int t_ladder_coin_tossed, .int t_ladder_coin_heads])), (a_o1, .inr (8, [.int o1_sign, .int o1_number, .int o1_weight, .int o1_rungs])), (a_t, .inr (4, [.ref a_t_ladder, .int t_detail, .int t_keptReason, .int t_keptDetail, .int t_keptIndex])), (a_t_ladder, .inr (7, [.ref a_t_ladder_keys, .ref a_t_ladder_weights, .ref a_t_ladder_towers, .ref a_t_ladder_coin, .int t_ladder_size, .int t_ladder_hidden])), (a_t_ladder_keys, .inl (y 0, 24, .inl t_ladder_keys_148)), (a_t_ladder_weights, .inl (y 0, 24, .inl t_ladder_weights_148)), (a_t_ladder_towers, .inl (y 0, 24, .inl t_ladder_towers_148))] := hD
                obtain ⟨e0_151, e1_151, e2_151, e3_151, e4_151, e5_151, e6_151, e7_151, e8_151⟩ := inj9 hF
                rw [← e0_151, ← e1_151, ← e2_151, ← e3_151, ← e4_151, ← e5_151, ← e6_151, ← e7_151, ← e8_151] at hQ0
                rw [hQ0]
                exact ret_i hx hb hr hlocks hAe hK hP hD hS [2, 3, 4, 5, 6, 0, 1] rfl rfl dX0_carryOut_151
              · have hF := iff_ hF c117_16
                by_cases c119_16 : r_13 = (119 : Int32)
                · have hF := ift hF c119_16
                  refine lv_lookup (tgt := 205) hx hb dX0_carryOut_16 (by decide) (by first | (rw [c119_16]; done) | (rw [c119_16]; decide +kernel)) (by decide) ?_
                  refine lv_aload_n hx hb dX0_carryOut_205 rfl (lv_at hl 1 rfl) ?_
                  refine lv_iload_n hx hb dX0_carryOut_206 rfl (lv_at hl 0 rfl) ?_
                  refine lv_aload_n hx hb dX0_carryOut_207 rfl (lv_at hl 2 rfl) ?_
                  obtain ⟨r_208, hq_208, hF⟩ := bn_i hF
                  refine cr_V (As := []) (rest := [.int r_8, .ref a_t]) ⟨hx, hb, hml, hown, hts⟩ (c_X4_weight l D y fl a_o1 o1_sign o1_number o1_weight o1_rungs r_208 hq_208) (cwV 0 hts gX0_carryOut_X4_weight rfl rfl rfl (by decide +kernel) ⟨Nat.le_of_ble_eq_true rfl, Nat.le_of_ble_eq_true rfl⟩) hK hP [6] rfl rfl rfl rfl hl.1 rfl (Nat.le_of_ble_eq_true rfl) dX0_carryOut_208 ⟨Nat.le_of_ble_eq_true rfl, Nat.le_of_ble_eq_true rfl⟩ ?_
                  obtain ⟨r_211, t_ladder_keys_211, t_ladder_weights_211, t_ladder_towers_211, hq_211, hF⟩ := bn4_i hF
                  refine cm_Vi (As := [.int r_8, .int r_208]) (rest := []) (wr := [(a_t_ladder_coin, .inr (5, [.int t_ladder_coin_number, .int t_ladder_coin_tossed, .int t_ladder_coin_heads])), (a_o1, .inr (8, [.int o1_sign, .int o1_number, .int o1_weight, .int o1_rungs]))]) ⟨hx, hb, hml, hown, hts⟩ (c_X0_changeWeight l D y fl s.heap.size a_t a_t_ladder a_t_ladder_keys a_t_ladder_weights a_t_ladder_towers a_t_ladder_coin t_detail t_keptReason t_keptDetail t_keptIndex t_ladder_size t_ladder_hidden t_ladder_keys t_ladder_weights t_ladder_towers r_8 r_208 r_211 t_ladder_keys_211 t_ladder_weights_211 t_ladder_towers_211 hq_211) (cwV 2 hts gX0_carryOut_X0_changeWeight rfl rfl rfl (by decide +kernel) ⟨Nat.le_of_ble_eq_true rfl, Nat.le_of_ble_eq_true rfl⟩) hK hP hD hS hA [0, 1, 2, 3, 4] [5, 6] rfl rfl rfl rfl (by decide) rfl rfl rfl hl.1 rfl (Nat.le_of_ble_eq_true rfl) dX0_carryOut_211 ⟨Nat.le_of_ble_eq_true rfl, Nat.le_of_ble_eq_true rfl⟩ (fun H locs hP hD hS => ?_)
                  have hP : va_P D vwCl [(a_t_ladder_coin, .inr (5, [.int t_ladder_coin_number, .int t_ladder_coin_tossed, .int t_ladder_coin_heads])), (a_o1, .inr (8, [.int o1_sign, .int o1_number, .int o1_weight, .int o1_rungs])), (a_t, .inr (4, [.ref a_t_ladder, .int t_detail, .int t_keptReason, .int t_keptDetail, .int t_keptIndex])), (a_t_ladder, .inr (7, [.ref a_t_ladder_keys, .ref a_t_ladder_weights, .ref a_t_ladder_towers, .ref a_t_ladder_coin, .int t_ladder_size, .int t_ladder_hidden])), (a_t_ladder_keys, .inl (y 0, 24, .inl t_ladder_keys_211)), (a_t_ladder_weights, .inl (y 0, 24, .inl t_ladder_weights_211)), (a_t_ladder_towers, .inl (y 0, 24, .inl t_ladder_towers_211))] H := hP
                  have hD : va_D A [(a_t_ladder_coin, .inr (5, [.int t_ladder_coin_number, .int t_ladder_coin_tossed, .int t_ladder_coin_heads])), (a_o1, .inr (8, [.int o1_sign, .int o1_number, .int o1_weight, .int o1_rungs])), (a_t, .inr (4, [.ref a_t_ladder, .int t_detail, .int t_keptReason, .int t_keptDetail, .int t_keptIndex])), (a_t_ladder, .inr (7, [.ref a_t_ladder_keys, .ref a_t_ladder_weights, .ref a_t_ladder_towers, .ref a_t_ladder_coin, .int t_ladder_size, .int t_ladder_hidden])), (a_t_ladder_keys, .inl (y 0, 24, .inl t_ladder_keys_211)), (a_t_ladder_weights, .inl (y 0, 24, .inl t_ladder_weights_211)), (a_t_ladder_towers, .inl (y 0, 24, .inl t_ladder_towers_211))] := hD
                  obtain ⟨e0_214, e1_214, e2_214, e3_214, e4_214, e5_214, e6_214, e7_214, e8_214⟩ := inj9 hF
                  rw [← e0_214, ← e1_214, ← e2_214, ← e3_214, ← e4_214, ← e5_214, ← e6_214, ← e7_214, ← e8_214] at hQ0
                  rw [hQ0]
                  exact ret_i hx hb hr hlocks hAe hK hP hD hS [2, 3, 4, 5, 6, 0, 1] rfl rfl dX0_carryOut_214
                · have hF := iff_ hF c119_16
                  refine lv_lookup (tgt := 215) (off := 199) hx hb dX0_carryOut_16 (by decide) (by refine (lv_osw c43_16 (by decide)).trans ?_; refine (lv_osw c45_16 (by decide)).trans ?_; refine (lv_osw c94_16 (by decide)).trans ?_; refine (lv_osw c100_16 (by decide)).trans ?_; refine (lv_osw c102_16 (by decide)).trans ?_; refine (lv_osw c114_16 (by decide)).trans ?_; refine (lv_osw c117_16 (by decide)).trans ?_; refine (lv_osw c119_16 (by decide)).trans ?_; rfl) (by decide) ?_
                  refine lv_aload_n hx hb dX0_carryOut_215 rfl (lv_at hl 1 rfl) ?_
                  refine va_get (D := D) (ci := 4) (v := .ref a_t_ladder) (C := RX0) (T := TX0) (N := 5) hx hb hts iX0_carryOut_X0 hown hK hP 0 rfl rfl 0 (by decide) (hts (.fieldLink RX0 24 "SkipArchive$Clerk" "ladder" "LSkipArchive$Ladder;") (List.mem_of_getElem? (i := 1) rfl)) (fun _ h9 => h9) rfl dX0_carryOut_216 ?_
                  obtain ⟨u_219, hq_219, hF⟩ := bn_i hF
                  cases u_219
                  refine cra_V (As := []) (rest := []) ⟨hx, hb, hml, hown, hts⟩ (c_X3_coin l D y fl a_t_ladder a_t_ladder_keys a_t_ladder_weights a_t_ladder_towers a_t_ladder_coin t_ladder_size t_ladder_hidden hq_219) (cwV 0 hts gX0_carryOut_X3_coin rfl rfl rfl (by decide +kernel) ⟨Nat.le_of_ble_eq_true rfl, Nat.le_of_ble_eq_true rfl⟩) hK hP [1] rfl rfl rfl rfl hl.1 rfl (Nat.le_of_ble_eq_true rfl) dX0_carryOut_219 ⟨Nat.le_of_ble_eq_true rfl, Nat.le_of_ble_eq_true rfl⟩ ?_
                  obtain ⟨r_222, t_ladder_coin_number_222, t_ladder_coin_tossed_222, t_ladder_coin_heads_222, hq_222, hF⟩ := bn4_i hF
                  refine cm_Vi (As := []) (rest := []) (wr := [(a_t, .inr (4, [.ref a_t_ladder, .int t_detail, .int t_keptReason, .int t_keptDetail, .int t_keptIndex])), (a_t_ladder, .inr (7, [.ref a_t_ladder_keys, .ref a_t_ladder_weights, .ref a_t_ladder_towers, .ref a_t_ladder_coin, .int t_ladder_size, .int t_ladder_hidden])), (a_t_ladder_keys, .inl (y 0, 24, .inl t_ladder_keys)), (a_t_ladder_weights, .inl (y 0, 24, .inl t_ladder_weights)), (a_t_ladder_towers, .inl (y 0, 24, .inl t_ladder_towers)), (a_o1, .inr (8, [.int o1_sign, .int o1_number, .int o1_weight, .int o1_rungs]))]) ⟨hx, hb, hml, hown, hts⟩ (c_X1_throwIt l D y fl s.heap.size a_t_ladder_coin t_ladder_coin_number t_ladder_coin_tossed t_ladder_coin_heads r_222 t_ladder_coin_number_222 t_ladder_coin_tossed_222 t_ladder_coin_heads_222 hq_222) (cwV 0 hts gX0_carryOut_X1_throwIt rfl rfl rfl (by decide +kernel) ⟨Nat.le_of_ble_eq_true rfl, Nat.le_of_ble_eq_true rfl⟩) hK hP hD hS hA [5] [0, 1, 2, 3, 4, 6] rfl rfl rfl rfl (by decide) rfl rfl rfl hl.1 rfl (Nat.le_of_ble_eq_true rfl) dX0_carryOut_222 ⟨Nat.le_of_ble_eq_true rfl, Nat.le_of_ble_eq_true rfl⟩ (fun H locs hP hD hS => ?_)
                  have hP : va_P D vwCl [(a_t, .inr (4, [.ref a_t_ladder, .int t_detail, .int t_keptReason, .int t_keptDetail, .int t_keptIndex])), (a_t_ladder, .inr (7, [.ref a_t_ladder_keys, .ref a_t_ladder_weights, .ref a_t_ladder_towers, .ref a_t_ladder_coin, .int t_ladder_size, .int t_ladder_hidden])), (a_t_ladder_keys, .inl (y 0, 24, .inl t_ladder_keys)), (a_t_ladder_weights, .inl (y 0, 24, .inl t_ladder_weights)), (a_t_ladder_towers, .inl (y 0, 24, .inl t_ladder_towers)), (a_o1, .inr (8, [.int o1_sign, .int o1_number, .int o1_weight, .int o1_rungs])), (a_t_ladder_coin, .inr (5, [.int t_ladder_coin_number_222, .int t_ladder_coin_tossed_222, .int t_ladder_coin_heads_222]))] H := hP
                  have hD : va_D A [(a_t, .inr (4, [.ref a_t_ladder, .int t_detail, .int t_keptReason, .int t_keptDetail, .int t_keptIndex])), (a_t_ladder, .inr (7, [.ref a_t_ladder_keys, .ref a_t_ladder_weights, .ref a_t_ladder_towers, .ref a_t_ladder_coin, .int t_ladder_size, .int t_ladder_hidden])), (a_t_ladder_keys, .inl (y 0, 24, .inl t_ladder_keys)), (a_t_ladder_weights, .inl (y 0, 24, .inl t_ladder_weights)), (a_t_ladder_towers, .inl (y 0, 24, .inl t_ladder_towers)), (a_o1, .inr (8, [.int o1_sign, .int o1_number, .int o1_weight, .int o1_rungs])), (a_t_ladder_coin, .inr (5, [.int t_ladder_coin_number_222, .int t_ladder_coin_tossed_222, .int t_ladder_coin_heads_222]))] := hD
                  refine lv_if_eq (tgt := 232) hx hb dX0_carryOut_225 (by decide) (fun c_225 => ?_) (fun c_225 => ?_)
                  · have hF := ift hF c_225
                    refine lv_iconst (v := 0) hx hb dX0_carryOut_232 (by decide) ?_
                    obtain ⟨e0_233, e1_233, e2_233, e3_233, e4_233, e5_233, e6_233, e7_233, e8_233⟩ := inj9 hF
                    rw [← e0_233, ← e1_233, ← e2_233, ← e3_233, ← e4_233, ← e5_233, ← e6_233, ← e7_233, ← e8_233] at hQ0
                    rw [hQ0]
                    exact ret_i hx hb hr hlocks hAe hK hP hD hS [0, 1, 2, 3, 4, 6, 5] rfl rfl dX0_carryOut_233
                  · have hF := iff_ hF c_225
                    refine lv_iconst (v := 1) hx hb dX0_carryOut_228 (by decide) ?_
                    refine lv_goto (tgt := 233) hx hb dX0_carryOut_229 (by decide) ?_
                    obtain ⟨e0_233, e1_233, e2_233, e3_233, e4_233, e5_233, e6_233, e7_233, e8_233⟩ := inj9 hF
                    rw [← e0_233, ← e1_233, ← e2_233, ← e3_233, ← e4_233, ← e5_233, ← e6_233, ← e7_233, ← e8_233] at hQ0
                    rw [hQ0]
                    exact ret_i hx hb hr hlocks hAe hK hP hD hS [0, 1, 2, 3, 4, 6, 5] rfl rfl dX0_carryOut_233
