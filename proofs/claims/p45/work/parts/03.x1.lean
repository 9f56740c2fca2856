def F_X1_number (fl : Nat) (t_number : Int32) : Option (Int32) := some t_number
theorem iX1_number_X1 : ∀ w ∈ u_ws RX1 TX1 3, w ∈ wsX1_number := fun w h => List.mem_cons_of_mem _ (List.mem_append_right _ h)
set_option maxHeartbeats 4000000 in
set_option maxRecDepth 100000 in
theorem c_X1_number (l : Launch) (D : va_G) (y : Nat → ClassId) (fl : Nat) (a_t : Nat) (t_number : Int32) (t_tossed : Int32) (t_heads : Int32) (r : Int32) (hF : F_X1_number fl t_number = some r) : Met l yX1_number wsX1_number (rmq 0 0) (rdP D y [(a_t, .inr (5, [.int t_number, .int t_tossed, .int t_heads]))] [.ref a_t]) (QcRead r) 0 0 (fun _ => False) := by
  refine Met.ofW (cc := cX1_number) (maxL := 1) (ret := (some .int)) (by decide) rfl ?_
  intro p e s m args below meth c s₁ B hml hv
  obtain ⟨hav, hP, hK⟩ := hv
  have hx := B.exec
  have hb := B.bytes
  have hr := B.returns
  have hts := atoms_spec (ws := wsX1_number) B.pre
  have hown : s.vm.findClass RX1 = some m.cls := findClass_of_methodNamed B.named
  have hlocks := B.notSynchronized
  refine W_q (R1 := (rmq 0 0)) rfl (fun Q0 hQ0 => ?_)
  unfold F_X1_number at hF
  refine W_entry hav (Nat.le_of_ble_eq_true rfl) (fun ls hl => ?_)
  have hl : lv_has ls 1 [(0, .ref a_t)] := hl
  refine lv_aload_n hx hb dX1_number_0 rfl (lv_at hl 0 rfl) ?_
  refine va_get (D := D) (ci := 5) (v := .int t_number) (C := RX1) (T := TX1) (N := 3) hx hb hts iX1_number_X1 hown hK hP 0 rfl rfl 0 (by decide) (hts (.fieldLink RX1 9 "SkipArchive$Coin" "number" "I") (List.mem_of_getElem? (i := 1) rfl)) (fun _ h9 => h9) rfl dX1_number_1 ?_
  obtain e0_4 := inj1 hF
  rw [← e0_4] at hQ0
  rw [hQ0]
  exact W.iret (v := t_number) hx hb hr (fun t ht hW => ⟨rfl, ht⟩) (fun _ h => nomatch h) dX1_number_4
def F_X1_tossed (fl : Nat) (t_tossed : Int32) : Option (Int32) := some t_tossed
theorem iX1_tossed_X1 : ∀ w ∈ u_ws RX1 TX1 3, w ∈ wsX1_tossed := fun w h => List.mem_cons_of_mem _ (List.mem_append_right _ h)
set_option maxHeartbeats 4000000 in
set_option maxRecDepth 100000 in
theorem c_X1_tossed (l : Launch) (D : va_G) (y : Nat → ClassId) (fl : Nat) (a_t : Nat) (t_number : Int32) (t_tossed : Int32) (t_heads : Int32) (r : Int32) (hF : F_X1_tossed fl t_tossed = some r) : Met l yX1_tossed wsX1_tossed (rmq 0 0) (rdP D y [(a_t, .inr (5, [.int t_number, .int t_tossed, .int t_heads]))] [.ref a_t]) (QcRead r) 0 0 (fun _ => False) := by
  refine Met.ofW (cc := cX1_tossed) (maxL := 1) (ret := (some .int)) (by decide) rfl ?_
  intro p e s m args below meth c s₁ B hml hv
  obtain ⟨hav, hP, hK⟩ := hv
  have hx := B.exec
  have hb := B.bytes
  have hr := B.returns
  have hts := atoms_spec (ws := wsX1_tossed) B.pre
  have hown : s.vm.findClass RX1 = some m.cls := findClass_of_methodNamed B.named
  have hlocks := B.notSynchronized
  refine W_q (R1 := (rmq 0 0)) rfl (fun Q0 hQ0 => ?_)
  unfold F_X1_tossed at hF
  refine W_entry hav (Nat.le_of_ble_eq_true rfl) (fun ls hl => ?_)
  have hl : lv_has ls 1 [(0, .ref a_t)] := hl
  refine lv_aload_n hx hb dX1_tossed_0 rfl (lv_at hl 0 rfl) ?_
  refine va_get (D := D) (ci := 5) (v := .int t_tossed) (C := RX1) (T := TX1) (N := 3) hx hb hts iX1_tossed_X1 hown hK hP 0 rfl rfl 1 (by decide) (hts (.fieldLink RX1 15 "SkipArchive$Coin" "tossed" "I") (List.mem_of_getElem? (i := 1) rfl)) (fun _ h9 => h9) rfl dX1_tossed_1 ?_
  obtain e0_4 := inj1 hF
  rw [← e0_4] at hQ0
  rw [hQ0]
  exact W.iret (v := t_tossed) hx hb hr (fun t ht hW => ⟨rfl, ht⟩) (fun _ h => nomatch h) dX1_tossed_4
def F_X1_heads (fl : Nat) (t_heads : Int32) : Option (Int32) := some t_heads
theorem iX1_heads_X1 : ∀ w ∈ u_ws RX1 TX1 3, w ∈ wsX1_heads := fun w h => List.mem_cons_of_mem _ (List.mem_append_right _ h)
set_option maxHeartbeats 4000000 in
set_option maxRecDepth 100000 in
theorem c_X1_heads (l : Launch) (D : va_G) (y : Nat → ClassId) (fl : Nat) (a_t : Nat) (t_number : Int32) (t_tossed : Int32) (t_heads : Int32) (r : Int32) (hF : F_X1_heads fl t_heads = some r) : Met l yX1_heads wsX1_heads (rmq 0 0) (rdP D y [(a_t, .inr (5, [.int t_number, .int t_tossed, .int t_heads]))] [.ref a_t]) (QcRead r) 0 0 (fun _ => False) := by
  refine Met.ofW (cc := cX1_heads) (maxL := 1) (ret := (some .int)) (by decide) rfl ?_
  intro p e s m args below meth c s₁ B hml hv
  obtain ⟨hav, hP, hK⟩ := hv
  have hx := B.exec
  have hb := B.bytes
  have hr := B.returns
  have hts := atoms_spec (ws := wsX1_heads) B.pre
  have hown : s.vm.findClass RX1 = some m.cls := findClass_of_methodNamed B.named
  have hlocks := B.notSynchronized
  refine W_q (R1 := (rmq 0 0)) rfl (fun Q0 hQ0 => ?_)
  unfold F_X1_heads at hF
  refine W_entry hav (Nat.le_of_ble_eq_true rfl) (fun ls hl => ?_)
  have hl : lv_has ls 1 [(0, .ref a_t)] := hl
  refine lv_aload_n hx hb dX1_heads_0 rfl (lv_at hl 0 rfl) ?_
  refine va_get (D := D) (ci := 5) (v := .int t_heads) (C := RX1) (T := TX1) (N := 3) hx hb hts iX1_heads_X1 hown hK hP 0 rfl rfl 2 (by decide) (hts (.fieldLink RX1 18 "SkipArchive$Coin" "heads" "I") (List.mem_of_getElem? (i := 1) rfl)) (fun _ h9 => h9) rfl dX1_heads_1 ?_
  obtain e0_4 := inj1 hF
  rw [← e0_4] at hQ0
  rw [hQ0]
  exact W.iret (v := t_heads) hx hb hr (fun t ht hW => ⟨rfl, ht⟩) (fun _ h => nomatch h) dX1_heads_4
def F_X1_following (fl : Nat) (p0 : Int32) : Option (Int32) := lt (((73 : Int32) * p0) + (19 : Int32)) fun z_10 => some (z_10 - z_10 / (10000 : Int32) * (10000 : Int32))
set_option maxHeartbeats 4000000 in
set_option maxRecDepth 100000 in
theorem c_X1_following (l : Launch) (D : va_G) (y : Nat → ClassId) (fl : Nat) (p0 : Int32) (r : Int32) (hF : F_X1_following fl p0 = some r) : Met l yX1_following wsX1_following (rmq 0 0) (rdP D y [] [.int p0]) (QcRead r) 0 0 (fun _ => False) := by
  refine Met.ofW (cc := cX1_following) (maxL := 1) (ret := (some .int)) (by decide) rfl ?_
  intro p e s m args below meth c s₁ B hml hv
  obtain ⟨hav, hP, hK⟩ := hv
  have hx := B.exec
  have hb := B.bytes
  have hr := B.returns
  have hts := atoms_spec (ws := wsX1_following) B.pre
  have hown : s.vm.findClass RX1 = some m.cls := findClass_of_methodNamed B.named
  have hlocks := B.notSynchronized
  refine W_q (R1 := (rmq 0 0)) rfl (fun Q0 hQ0 => ?_)
  unfold F_X1_following at hF
  refine W_entry hav (Nat.le_of_ble_eq_true rfl) (fun ls hl => ?_)
  have hl : lv_has ls 1 [(0, .int p0)] := hl
  refine lv_bipush (v := 73) hx hb dX1_following_0 (by decide) ?_
  refine lv_iload_n hx hb dX1_following_2 rfl (lv_at hl 0 rfl) ?_
  refine lv_imul hx hb dX1_following_3 ?_
  refine lv_bipush (v := 19) hx hb dX1_following_4 (by decide) ?_
  refine lv_iadd hx hb dX1_following_6 ?_
  refine lv_sipush (v := 10000) hx hb dX1_following_7 (by decide) ?_
  refine s1_name (x := (((73 : Int32) * p0) + (19 : Int32))) (fun z_10 ez_10 => ?_)
  have hF := lt_i hF ez_10
  refine lv_irem hx hb dX1_following_10 (by decide) ?_
  obtain e0_11 := inj1 hF
  rw [← e0_11] at hQ0
  rw [hQ0]
  exact W.iret (v := z_10 - z_10 / (10000 : Int32) * (10000 : Int32)) hx hb hr (fun t ht hW => ⟨rfl, ht⟩) (fun _ h => nomatch h) dX1_following_11
def F_X1_showsHeads (fl : Nat) (p0 : Int32) : Option (Int32) := lt (p0 / (100 : Int32)) fun z_5 => if (z_5 - z_5 / (2 : Int32) * (2 : Int32)) = (1 : Int32) then (some (1 : Int32)) else (some (0 : Int32))
set_option maxHeartbeats 4000000 in
set_option maxRecDepth 100000 in
theorem c_X1_showsHeads (l : Launch) (D : va_G) (y : Nat → ClassId) (fl : Nat) (p0 : Int32) (r : Int32) (hF : F_X1_showsHeads fl p0 = some r) : Met l yX1_showsHeads wsX1_showsHeads (rmq 0 0) (rdP D y [] [.int p0]) (QcRead r) 0 0 (fun _ => False) := by
  refine Met.ofW (cc := cX1_showsHeads) (maxL := 1) (ret := (some .boolean)) (by decide) rfl ?_
  intro p e s m args below meth c s₁ B hml hv
  obtain ⟨hav, hP, hK⟩ := hv
  have hx := B.exec
  have hb := B.bytes
  have hr := B.returns
  have hts := atoms_spec (ws := wsX1_showsHeads) B.pre
  have hown : s.vm.findClass RX1 = some m.cls := findClass_of_methodNamed B.named
  have hlocks := B.notSynchronized
  refine W_q (R1 := (rmq 0 0)) rfl (fun Q0 hQ0 => ?_)
  unfold F_X1_showsHeads at hF
  refine W_entry hav (Nat.le_of_ble_eq_true rfl) (fun ls hl => ?_)
  have hl : lv_has ls 1 [(0, .int p0)] := hl
  refine lv_iload_n hx hb dX1_showsHeads_0 rfl (lv_at hl 0 rfl) ?_
  refine lv_bipush (v := 100) hx hb dX1_showsHeads_1 (by decide) ?_
  refine lv_idiv hx hb dX1_showsHeads_3 (by decide) ?_
  refine lv_iconst (v := 2) hx hb dX1_showsHeads_4 (by decide) ?_
  refine s1_name (x := (p0 / (100 : Int32))) (fun z_5 ez_5 => ?_)
  have hF := lt_i hF ez_5
  refine lv_irem hx hb dX1_showsHeads_5 (by decide) ?_
  refine lv_iconst (v := 1) hx hb dX1_showsHeads_6 (by decide) ?_
  refine lv_icmp_ne (tgt := 14) hx hb dX1_showsHeads_7 (by decide) (fun c_7 => ?_) (fun c_7 => ?_)
  · have hF := iff_ hF c_7
    refine lv_iconst (v := 0) hx hb dX1_showsHeads_14 (by decide) ?_
    obtain e0_15 := inj1 hF
    rw [← e0_15] at hQ0
    rw [hQ0]
    exact W.zret (v := (0 : Int32)) hx hb hr (by decide +kernel) (fun t ht hW => ⟨rfl, ht⟩) (fun _ h => nomatch h) dX1_showsHeads_15
  · have hF := ift hF c_7
    refine lv_iconst (v := 1) hx hb dX1_showsHeads_10 (by decide) ?_
    refine lv_goto (tgt := 15) hx hb dX1_showsHeads_11 (by decide) ?_
    obtain e0_15 := inj1 hF
    rw [← e0_15] at hQ0
    rw [hQ0]
    exact W.zret (v := (1 : Int32)) hx hb hr (by decide +kernel) (fun t ht hW => ⟨rfl, ht⟩) (fun _ h => nomatch h) dX1_showsHeads_15
def F_X1_throwIt (fl : Nat) (t_number : Int32) (t_tossed : Int32) (t_heads : Int32) : Option (Int32 × Int32 × Int32 × Int32) := bn (F_X1_following fl t_number) fun r_5 => bn (F_X1_showsHeads fl r_5) fun r_25 => if r_25 = 0 then (gd (okB r_25 = true) (some (r_25, r_5, t_tossed + (1 : Int32), t_heads))) else (gd (okB r_25 = true) (some (r_25, r_5, t_tossed + (1 : Int32), t_heads + (1 : Int32))))
theorem iX1_throwIt_X1 : ∀ w ∈ u_ws RX1 TX1 3, w ∈ wsX1_throwIt := fun w h => List.mem_cons_of_mem _ (List.mem_append_right _ h)
set_option maxHeartbeats 4000000 in
set_option maxRecDepth 100000 in
theorem c_X1_throwIt (l : Launch) (D : va_G) (y : Nat → ClassId) (fl : Nat) (sz : Nat) (a_t : Nat) (t_number : Int32) (t_tossed : Int32) (t_heads : Int32) (r : Int32) (t_number' : Int32) (t_tossed' : Int32) (t_heads' : Int32) (hF : F_X1_throwIt fl t_number t_tossed t_heads = some (r, t_number', t_tossed', t_heads')) : Met l yX1_throwIt wsX1_throwIt (rmq 1 20) (wrP D y [(a_t, .inr (5, [.int t_number, .int t_tossed, .int t_heads]))] sz [.ref a_t]) (wQi D y r [(a_t, .inr (5, [.int t_number', .int t_tossed', .int t_heads']))] [(a_t, .inr (5, [.int t_number, .int t_tossed, .int t_heads]))] sz) 0 0 (va_A [(a_t, .inr (5, [.int t_number, .int t_tossed, .int t_heads]))] sz) := by
  refine Met.ofW (cc := cX1_throwIt) (maxL := 2) (ret := (some .boolean)) (by decide) rfl ?_
  intro p e s m args below meth c s₁ B hml hv
  obtain ⟨hav, hsz, hP, hK, hD0⟩ := hv
  have hx := B.exec
  have hb := B.bytes
  have hr := B.returns
  have hts := atoms_spec (ws := wsX1_throwIt) B.pre
  have hown : s.vm.findClass RX1 = some m.cls := findClass_of_methodNamed B.named
  have hlocks := B.notSynchronized
  subst hsz
  have hD := hD0.self (sz := s.heap.size)
  obtain ⟨A, hAe⟩ : ∃ A : Nat → Prop, va_A [(a_t, .inr (5, [.int t_number, .int t_tossed, .int t_heads]))] s.heap.size = A := ⟨_, rfl⟩
  rw [hAe] at hD
  have hA : ∀ q, s.heap.size ≤ q → A q := fun q h => by rw [← hAe]; exact Or.inr h
  have hS : va_S A s.heap s.heap [] := va_S.rf
  refine W_q (R1 := (rmq 1 20)) rfl (fun Q0 hQ0 => ?_)
  unfold F_X1_throwIt at hF
  refine W_entry hav (Nat.le_of_ble_eq_true rfl) (fun ls hl => ?_)
  have hl : lv_has ls 2 [(0, .ref a_t)] := hl
  refine lv_aload_n hx hb dX1_throwIt_0 rfl (lv_at hl 0 rfl) ?_
  refine lv_aload_n hx hb dX1_throwIt_1 rfl (lv_at hl 0 rfl) ?_
  refine va_get (D := D) (ci := 5) (v := .int t_number) (C := RX1) (T := TX1) (N := 3) hx hb hts iX1_throwIt_X1 hown hK hP 0 rfl rfl 0 (by decide) (hts (.fieldLink RX1 9 "SkipArchive$Coin" "number" "I") (List.mem_of_getElem? (i := 1) rfl)) (fun _ h9 => h9) rfl dX1_throwIt_2 ?_
  obtain ⟨r_5, hq_5, hF⟩ := bn_i hF
  refine cr_S (As := [.int t_number]) (rest := [.ref a_t]) ⟨hx, hb, hml, hown, hts⟩ (c_X1_following l D y fl t_number r_5 hq_5) (va_cwS 1 hts gX1_throwIt_X1_following rfl rfl rfl (by decide +kernel) ⟨Nat.le_of_ble_eq_true rfl, Nat.le_of_ble_eq_true rfl⟩) hK hP [] rfl rfl hl.1 rfl (Nat.le_of_ble_eq_true rfl) dX1_throwIt_5 ⟨Nat.le_of_ble_eq_true rfl, Nat.le_of_ble_eq_true rfl⟩ ?_
  refine va_put (D := D) (ci := 5) (v := .int r_5) (ty := .int) (C := RX1) (T := TX1) (N := 3) hx hb hts iX1_throwIt_X1 tyX1 tyX1_ok nmX1 hown hK hP hD hS 0 rfl rfl 0 (by decide) (hts (.fieldLink RX1 9 "SkipArchive$Coin" "number" "I") (List.mem_of_getElem? (i := 1) rfl)) (fun _ h9 => h9) rfl (by decide +kernel) rfl rfl (Nat.le_of_ble_eq_true rfl) dX1_throwIt_8 (fun H locs hP hD hS => ?_)
  have hP : va_P D vwCl [(a_t, .inr (5, [.int r_5, .int t_tossed, .int t_heads]))] H := hP
  have hD : va_D A [(a_t, .inr (5, [.int r_5, .int t_tossed, .int t_heads]))] := hD
  refine lv_aload_n hx hb dX1_throwIt_11 rfl (lv_at hl 0 rfl) ?_
  refine lv_dup hx hb dX1_throwIt_12 rfl ?_
  refine va_get (D := D) (ci := 5) (v := .int t_tossed) (C := RX1) (T := TX1) (N := 3) hx hb hts iX1_throwIt_X1 hown hK hP 0 rfl rfl 1 (by decide) (hts (.fieldLink RX1 15 "SkipArchive$Coin" "tossed" "I") (List.mem_of_getElem? (i := 2) rfl)) (fun _ h9 => h9) rfl dX1_throwIt_13 ?_
  refine lv_iconst (v := 1) hx hb dX1_throwIt_16 (by decide) ?_
  refine lv_iadd hx hb dX1_throwIt_17 ?_
  refine va_put (D := D) (ci := 5) (v := .int (t_tossed + (1 : Int32))) (ty := .int) (C := RX1) (T := TX1) (N := 3) hx hb hts iX1_throwIt_X1 tyX1 tyX1_ok nmX1 hown hK hP hD hS 0 rfl rfl 1 (by decide) (hts (.fieldLink RX1 15 "SkipArchive$Coin" "tossed" "I") (List.mem_of_getElem? (i := 2) rfl)) (fun _ h9 => h9) rfl (by decide +kernel) rfl rfl (Nat.le_of_ble_eq_true rfl) dX1_throwIt_18 (fun H locs hP hD hS => ?_)
  have hP : va_P D vwCl [(a_t, .inr (5, [.int r_5, .int (t_tossed + (1 : Int32)), .int t_heads]))] H := hP
  have hD : va_D A [(a_t, .inr (5, [.int r_5, .int (t_tossed + (1 : Int32)), .int t_heads]))] := hD
  refine lv_aload_n hx hb dX1_throwIt_21 rfl (lv_at hl 0 rfl) ?_
  refine va_get (D := D) (ci := 5) (v := .int r_5) (C := RX1) (T := TX1) (N := 3) hx hb hts iX1_throwIt_X1 hown hK hP 0 rfl rfl 0 (by decide) (hts (.fieldLink RX1 9 "SkipArchive$Coin" "number" "I") (List.mem_of_getElem? (i := 1) rfl)) (fun _ h9 => h9) rfl dX1_throwIt_22 ?_
  obtain ⟨r_25, hq_25, hF⟩ := bn_i hF
  refine cr_S (As := [.int r_5]) (rest := []) ⟨hx, hb, hml, hown, hts⟩ (c_X1_showsHeads l D y fl r_5 r_25 hq_25) (va_cwS 1 hts gX1_throwIt_X1_showsHeads rfl rfl rfl (by decide +kernel) ⟨Nat.le_of_ble_eq_true rfl, Nat.le_of_ble_eq_true rfl⟩) hK hP [] rfl rfl hl.1 rfl (Nat.le_of_ble_eq_true rfl) dX1_throwIt_25 ⟨Nat.le_of_ble_eq_true rfl, Nat.le_of_ble_eq_true rfl⟩ ?_
  refine lv_istore_n (lv' := [(1, .int r_25), (0, .ref a_t)]) hx hb dX1_throwIt_28 rfl hl (by decide) rfl (fun ls hl => ?_)
  refine lv_iload_n hx hb dX1_throwIt_29 rfl (lv_at hl 0 rfl) ?_
  refine lv_if_eq (tgt := 43) hx hb dX1_throwIt_30 (by decide) (fun c_30 => ?_) (fun c_30 => ?_)
  · have hF := ift hF c_30
    refine lv_iload_n hx hb dX1_throwIt_43 rfl (lv_at hl 0 rfl) ?_
    obtain ⟨g_44, hF⟩ := gd_i hF
    obtain ⟨e0_44, e1_44, e2_44, e3_44⟩ := inj4 hF
    rw [← e0_44, ← e1_44, ← e2_44, ← e3_44] at hQ0
    rw [hQ0]
    exact ret_z hx hb hr (okB_n g_44).1 hlocks hAe hK hP hD hS [0] rfl rfl dX1_throwIt_44
  · have hF := iff_ hF c_30
    refine lv_aload_n hx hb dX1_throwIt_33 rfl (lv_at hl 1 rfl) ?_
    refine lv_dup hx hb dX1_throwIt_34 rfl ?_
    refine va_get (D := D) (ci := 5) (v := .int t_heads) (C := RX1) (T := TX1) (N := 3) hx hb hts iX1_throwIt_X1 hown hK hP 0 rfl rfl 2 (by decide) (hts (.fieldLink RX1 18 "SkipArchive$Coin" "heads" "I") (List.mem_of_getElem? (i := 3) rfl)) (fun _ h9 => h9) rfl dX1_throwIt_35 ?_
    refine lv_iconst (v := 1) hx hb dX1_throwIt_38 (by decide) ?_
    refine lv_iadd hx hb dX1_throwIt_39 ?_
    refine va_put (D := D) (ci := 5) (v := .int (t_heads + (1 : Int32))) (ty := .int) (C := RX1) (T := TX1) (N := 3) hx hb hts iX1_throwIt_X1 tyX1 tyX1_ok nmX1 hown hK hP hD hS 0 rfl rfl 2 (by decide) (hts (.fieldLink RX1 18 "SkipArchive$Coin" "heads" "I") (List.mem_of_getElem? (i := 3) rfl)) (fun _ h9 => h9) rfl (by decide +kernel) rfl rfl (Nat.le_of_ble_eq_true rfl) dX1_throwIt_40 (fun H locs hP hD hS => ?_)
    have hP : va_P D vwCl [(a_t, .inr (5, [.int r_5, .int (t_tossed + (1 : Int32)), .int (t_heads + (1 : Int32))]))] H := hP
    have hD : va_D A [(a_t, .inr (5, [.int r_5, .int (t_tossed + (1 : Int32)), .int (t_heads + (1 : Int32))]))] := hD
    refine lv_iload_n hx hb dX1_throwIt_43 rfl (lv_at hl 0 rfl) ?_
    obtain ⟨g_44b, hF⟩ := gd_i hF
    obtain ⟨e0_44, e1_44, e2_44, e3_44⟩ := inj4 hF
    rw [← e0_44, ← e1_44, ← e2_44, ← e3_44] at hQ0
    rw [hQ0]
    exact ret_z hx hb hr (okB_n g_44b).1 hlocks hAe hK hP hD hS [0] rfl rfl dX1_throwIt_44
def F_X1_throwTower_2 (fl : Nat) : Nat → Int32 → Int32 → Int32 → Int32 → Option (Int32 × Int32 × Int32 × Int32)
  | 0, _, _, _, _ => none
  | n + 1, t_number_w, t_tossed_w, t_heads_w, x1 => if (5 : Int32) ≤ x1 then (some (x1, t_number_w, t_tossed_w, t_heads_w)) else (bn4 (F_X1_throwIt fl t_number_w t_tossed_w t_heads_w) fun r_8 t_number_8 t_tossed_8 t_heads_8 => if r_8 = 0 then (some (x1, t_number_8, t_tossed_8, t_heads_8)) else (F_X1_throwTower_2 fl n t_number_8 t_tossed_8 t_heads_8 (x1 + (1 : Int32))))
def F_X1_throwTower (fl : Nat) (t_number : Int32) (t_tossed : Int32) (t_heads : Int32) : Option (Int32 × Int32 × Int32 × Int32) := F_X1_throwTower_2 fl fl t_number t_tossed t_heads (1 : Int32)
set_option maxHeartbeats 4000000 in
set_option maxRecDepth 100000 in
theorem c_X1_throwTower (l : Launch) (D : va_G) (y : Nat → ClassId) (fl : Nat) (sz : Nat) (a_t : Nat) (t_number : Int32) (t_tossed : Int32) (t_heads : Int32) (r : Int32) (t_number' : Int32) (t_tossed' : Int32) (t_heads' : Int32) (hF : F_X1_throwTower fl t_number t_tossed t_heads = some (r, t_number', t_tossed', t_heads')) : Met l yX1_throwTower wsX1_throwTower (rmq 2 41) (wrP D y [(a_t, .inr (5, [.int t_number, .int t_tossed, .int t_heads]))] sz [.ref a_t]) (wQi D y r [(a_t, .inr (5, [.int t_number', .int t_tossed', .int t_heads']))] [(a_t, .inr (5, [.int t_number, .int t_tossed, .int t_heads]))] sz) 0 0 (va_A [(a_t, .inr (5, [.int t_number, .int t_tossed, .int t_heads]))] sz) := by
  refine Met.ofW (cc := cX1_throwTower) (maxL := 2) (ret := (some .int)) (by decide) rfl ?_
  intro p e s m args below meth c s₁ B hml hv
  obtain ⟨hav, hsz, hP, hK, hD0⟩ := hv
  have hx := B.exec
  have hb := B.bytes
  have hr := B.returns
  have hts := atoms_spec (ws := wsX1_throwTower) B.pre
  have hown : s.vm.findClass RX1 = some m.cls := findClass_of_methodNamed B.named
  have hlocks := B.notSynchronized
  subst hsz
  have hD := hD0.self (sz := s.heap.size)
  obtain ⟨A, hAe⟩ : ∃ A : Nat → Prop, va_A [(a_t, .inr (5, [.int t_number, .int t_tossed, .int t_heads]))] s.heap.size = A := ⟨_, rfl⟩
  rw [hAe] at hD
  have hA : ∀ q, s.heap.size ≤ q → A q := fun q h => by rw [← hAe]; exact Or.inr h
  have hS : va_S A s.heap s.heap [] := va_S.rf
  refine W_q (R1 := (rmq 2 41)) rfl (fun Q0 hQ0 => ?_)
  unfold F_X1_throwTower at hF
  have k_2 : ∀ (n : Nat) (t_number_w : Int32) (t_tossed_w : Int32) (t_heads_w : Int32) (x1 : Int32), F_X1_throwTower_2 fl n t_number_w t_tossed_w t_heads_w x1 = some (r, t_number', t_tossed', t_heads') → ∀ (H : Heap) (locs : List Loc), va_P D vwCl [(a_t, .inr (5, [.int t_number_w, .int t_tossed_w, .int t_heads_w]))] H → va_D A [(a_t, .inr (5, [.int t_number_w, .int t_tossed_w, .int t_heads_w]))] → va_S A s.heap H locs → ∀ (ls : Array Slot), lv_has ls 2 [(0, .ref a_t), (1, .int x1)] → W p l e (rmq 2 41) s m args below meth c H locs 0 0 Q0 (F0 m 2 ls []) := by
    intro n
    induction n with
    | zero => intro t_number_w t_tossed_w t_heads_w x1 hF; rw [F_X1_throwTower_2] at hF; cases hF
    | succ n ih =>
      intro t_number_w t_tossed_w t_heads_w x1 hF H locs hP hD hS ls hl
      rw [F_X1_throwTower_2] at hF
      refine lv_iload_n hx hb dX1_throwTower_2 rfl (lv_at hl 1 rfl) ?_
      refine lv_iconst (v := 5) hx hb dX1_throwTower_3 (by decide) ?_
      refine lv_icmp_ge (tgt := 20) hx hb dX1_throwTower_4 (by decide) (fun c_4 => ?_) (fun c_4 => ?_)
      · have hF := ift hF c_4
        refine lv_iload_n hx hb dX1_throwTower_20 rfl (lv_at hl 1 rfl) ?_
        obtain ⟨e0_21, e1_21, e2_21, e3_21⟩ := inj4 hF
        rw [← e0_21, ← e1_21, ← e2_21, ← e3_21] at hQ0
        rw [hQ0]
        exact ret_i hx hb hr hlocks hAe hK hP hD hS [0] rfl rfl dX1_throwTower_21
      · have hF := iff_ hF c_4
        refine lv_aload_n hx hb dX1_throwTower_7 rfl (lv_at hl 0 rfl) ?_
        obtain ⟨r_8, t_number_8, t_tossed_8, t_heads_8, hq_8, hF⟩ := bn4_i hF
        refine cm_Vi (As := []) (rest := []) (wr := []) ⟨hx, hb, hml, hown, hts⟩ (c_X1_throwIt l D y fl H.size a_t t_number_w t_tossed_w t_heads_w r_8 t_number_8 t_tossed_8 t_heads_8 hq_8) (cwV 0 hts gX1_throwTower_X1_throwIt rfl rfl rfl (by decide +kernel) ⟨Nat.le_of_ble_eq_true rfl, Nat.le_of_ble_eq_true rfl⟩) hK hP hD hS hA [0] [] rfl rfl rfl rfl (by decide) rfl rfl rfl hl.1 rfl (Nat.le_of_ble_eq_true rfl) dX1_throwTower_8 ⟨Nat.le_of_ble_eq_true rfl, Nat.le_of_ble_eq_true rfl⟩ (fun H locs hP hD hS => ?_)
        have hP : va_P D vwCl [(a_t, .inr (5, [.int t_number_8, .int t_tossed_8, .int t_heads_8]))] H := hP
        have hD : va_D A [(a_t, .inr (5, [.int t_number_8, .int t_tossed_8, .int t_heads_8]))] := hD
        refine lv_if_eq (tgt := 20) hx hb dX1_throwTower_11 (by decide) (fun c_11 => ?_) (fun c_11 => ?_)
        · have hF := ift hF c_11
          refine lv_iload_n hx hb dX1_throwTower_20 rfl (lv_at hl 1 rfl) ?_
          obtain ⟨e0_21, e1_21, e2_21, e3_21⟩ := inj4 hF
          rw [← e0_21, ← e1_21, ← e2_21, ← e3_21] at hQ0
          rw [hQ0]
          exact ret_i hx hb hr hlocks hAe hK hP hD hS [0] rfl rfl dX1_throwTower_21
        · have hF := iff_ hF c_11
          refine lv_iinc (v := x1 + (1 : Int32)) (lv' := [(1, .int (x1 + (1 : Int32))), (0, .ref a_t)]) hx hb dX1_throwTower_14 hl (k := 1) rfl rfl (by decide) rfl (fun ls hl => ?_)
          refine lv_goto (tgt := 2) hx hb dX1_throwTower_17 (by decide) ?_
          exact ih t_number_8 t_tossed_8 t_heads_8 (x1 + (1 : Int32)) hF _ _ hP hD hS ls (lv_sub hl [1, 0] rfl)
  refine W_entry hav (Nat.le_of_ble_eq_true rfl) (fun ls hl => ?_)
  have hl : lv_has ls 2 [(0, .ref a_t)] := hl
  refine lv_iconst (v := 1) hx hb dX1_throwTower_0 (by decide) ?_
  refine lv_istore_n (lv' := [(1, .int (1 : Int32)), (0, .ref a_t)]) hx hb dX1_throwTower_1 rfl hl (by decide) rfl (fun ls hl => ?_)
  exact k_2 fl t_number t_tossed t_heads (1 : Int32) hF _ _ hP hD hS ls (lv_sub hl [1, 0] rfl)
def F_X1_towerAhead_10 (fl : Nat) (t_number : Int32) : Nat → Int32 → Int32 → Option (Int32)
  | 0, _, _ => none
  | n + 1, x1, x2 => if (5 : Int32) ≤ x2 then (some x2) else (bn (F_X1_showsHeads fl x1) fun r_16 => if r_16 = 0 then (some x2) else (bn (F_X1_following fl x1) fun r_23 => F_X1_towerAhead_10 fl t_number n r_23 (x2 + (1 : Int32))))
def F_X1_towerAhead (fl : Nat) (t_number : Int32) : Option (Int32) := bn (F_X1_following fl t_number) fun r_4 => F_X1_towerAhead_10 fl t_number fl r_4 (1 : Int32)
theorem iX1_towerAhead_X1 : ∀ w ∈ u_ws RX1 TX1 3, w ∈ wsX1_towerAhead := fun w h => List.mem_cons_of_mem _ (List.mem_append_right _ h)
set_option maxHeartbeats 4000000 in
set_option maxRecDepth 100000 in
theorem c_X1_towerAhead (l : Launch) (D : va_G) (y : Nat → ClassId) (fl : Nat) (a_t : Nat) (t_number : Int32) (t_tossed : Int32) (t_heads : Int32) (r : Int32) (hF : F_X1_towerAhead fl t_number = some r) : Met l yX1_towerAhead wsX1_towerAhead (rmq 1 20) (rdP D y [(a_t, .inr (5, [.int t_number, .int t_tossed, .int t_heads]))] [.ref a_t]) (QcRead r) 0 0 (fun _ => False) := by
  refine Met.ofW (cc := cX1_towerAhead) (maxL := 3) (ret := (some .int)) (by decide) rfl ?_
  intro p e s m args below meth c s₁ B hml hv
  obtain ⟨hav, hP, hK⟩ := hv
  have hx := B.exec
  have hb := B.bytes
  have hr := B.returns
  have hts := atoms_spec (ws := wsX1_towerAhead) B.pre
  have hown : s.vm.findClass RX1 = some m.cls := findClass_of_methodNamed B.named
  have hlocks := B.notSynchronized
  refine W_q (R1 := (rmq 1 20)) rfl (fun Q0 hQ0 => ?_)
  unfold F_X1_towerAhead at hF
  have k_10 : ∀ (n : Nat) (x1 : Int32) (x2 : Int32), F_X1_towerAhead_10 fl t_number n x1 x2 = some r → ∀ (ls : Array Slot), lv_has ls 3 [(0, .ref a_t), (1, .int x1), (2, .int x2)] → W p l e (rmq 1 20) s m args below meth c s.heap [] 0 0 Q0 (F0 m 10 ls []) := by
    intro n
    induction n with
    | zero => intro x1 x2 hF; rw [F_X1_towerAhead_10] at hF; cases hF
    | succ n ih =>
      intro x1 x2 hF ls hl
      rw [F_X1_towerAhead_10] at hF
      refine lv_iload_n hx hb dX1_towerAhead_10 rfl (lv_at hl 2 rfl) ?_
      refine lv_iconst (v := 5) hx hb dX1_towerAhead_11 (by decide) ?_
      refine lv_icmp_ge (tgt := 33) hx hb dX1_towerAhead_12 (by decide) (fun c_12 => ?_) (fun c_12 => ?_)
      · have hF := ift hF c_12
        refine lv_iload_n hx hb dX1_towerAhead_33 rfl (lv_at hl 2 rfl) ?_
        obtain e0_34 := inj1 hF
        rw [← e0_34] at hQ0
        rw [hQ0]
        exact W.iret (v := x2) hx hb hr (fun t ht hW => ⟨rfl, ht⟩) (fun _ h => nomatch h) dX1_towerAhead_34
      · have hF := iff_ hF c_12
        refine lv_iload_n hx hb dX1_towerAhead_15 rfl (lv_at hl 1 rfl) ?_
        obtain ⟨r_16, hq_16, hF⟩ := bn_i hF
        refine cr_S (As := [.int x1]) (rest := []) ⟨hx, hb, hml, hown, hts⟩ (c_X1_showsHeads l D y fl x1 r_16 hq_16) (va_cwS 1 hts gX1_towerAhead_X1_showsHeads rfl rfl rfl (by decide +kernel) ⟨Nat.le_of_ble_eq_true rfl, Nat.le_of_ble_eq_true rfl⟩) hK hP [] rfl rfl hl.1 rfl (Nat.le_of_ble_eq_true rfl) dX1_towerAhead_16 ⟨Nat.le_of_ble_eq_true rfl, Nat.le_of_ble_eq_true rfl⟩ ?_
        refine lv_if_eq (tgt := 33) hx hb dX1_towerAhead_19 (by decide) (fun c_19 => ?_) (fun c_19 => ?_)
        · have hF := ift hF c_19
          refine lv_iload_n hx hb dX1_towerAhead_33 rfl (lv_at hl 2 rfl) ?_
          obtain e0_34 := inj1 hF
          rw [← e0_34] at hQ0
          rw [hQ0]
          exact W.iret (v := x2) hx hb hr (fun t ht hW => ⟨rfl, ht⟩) (fun _ h => nomatch h) dX1_towerAhead_34
        · have hF := iff_ hF c_19
          refine lv_iload_n hx hb dX1_towerAhead_22 rfl (lv_at hl 1 rfl) ?_
          obtain ⟨r_23, hq_23, hF⟩ := bn_i hF
          refine cr_S (As := [.int x1]) (rest := []) ⟨hx, hb, hml, hown, hts⟩ (c_X1_following l D y fl x1 r_23 hq_23) (va_cwS 1 hts gX1_towerAhead_X1_following rfl rfl rfl (by decide +kernel) ⟨Nat.le_of_ble_eq_true rfl, Nat.le_of_ble_eq_true rfl⟩) hK hP [] rfl rfl hl.1 rfl (Nat.le_of_ble_eq_true rfl) dX1_towerAhead_23 ⟨Nat.le_of_ble_eq_true rfl, Nat.le_of_ble_eq_true rfl⟩ ?_
          refine lv_istore_n (lv' := [(1, .int r_23), (0, .ref a_t), (2, .int x2)]) hx hb dX1_towerAhead_26 rfl hl (by decide) rfl (fun ls hl => ?_)
          refine lv_iinc (v := x2 + (1 : Int32)) (lv' := [(2, .int (x2 + (1 : Int32))), (1, .int r_23), (0, .ref a_t)]) hx hb dX1_towerAhead_27 hl (k := 2) rfl rfl (by decide) rfl (fun ls hl => ?_)
          refine lv_goto (tgt := 10) hx hb dX1_towerAhead_30 (by decide) ?_
          exact ih r_23 (x2 + (1 : Int32)) hF ls (lv_sub hl [2, 1, 0] rfl)
  refine W_entry hav (Nat.le_of_ble_eq_true rfl) (fun ls hl => ?_)
  have hl : lv_has ls 3 [(0, .ref a_t)] := hl
  refine lv_aload_n hx hb dX1_towerAhead_0 rfl (lv_at hl 0 rfl) ?_
  refine va_get (D := D) (ci := 5) (v := .int t_number) (C := RX1) (T := TX1) (N := 3) hx hb hts iX1_towerAhead_X1 hown hK hP 0 rfl rfl 0 (by decide) (hts (.fieldLink RX1 9 "SkipArchive$Coin" "number" "I") (List.mem_of_getElem? (i := 1) rfl)) (fun _ h9 => h9) rfl dX1_towerAhead_1 ?_
  obtain ⟨r_4, hq_4, hF⟩ := bn_i hF
  refine cr_S (As := [.int t_number]) (rest := []) ⟨hx, hb, hml, hown, hts⟩ (c_X1_following l D y fl t_number r_4 hq_4) (va_cwS 1 hts gX1_towerAhead_X1_following rfl rfl rfl (by decide +kernel) ⟨Nat.le_of_ble_eq_true rfl, Nat.le_of_ble_eq_true rfl⟩) hK hP [] rfl rfl hl.1 rfl (Nat.le_of_ble_eq_true rfl) dX1_towerAhead_4 ⟨Nat.le_of_ble_eq_true rfl, Nat.le_of_ble_eq_true rfl⟩ ?_
  refine lv_istore_n (lv' := [(1, .int r_4), (0, .ref a_t)]) hx hb dX1_towerAhead_7 rfl hl (by decide) rfl (fun ls hl => ?_)
  refine lv_iconst (v := 1) hx hb dX1_towerAhead_8 (by decide) ?_
  refine lv_istore_n (lv' := [(2, .int (1 : Int32)), (1, .int r_4), (0, .ref a_t)]) hx hb dX1_towerAhead_9 rfl hl (by decide) rfl (fun ls hl => ?_)
  exact k_10 fl r_4 (1 : Int32) hF ls (lv_sub hl [2, 1, 0] rfl)
def F_X1_copyFrom (fl : Nat) (t_number : Int32) (t_tossed : Int32) (t_heads : Int32) (o1_number : Int32) (o1_tossed : Int32) (o1_heads : Int32) : Option (Int32 × Int32 × Int32) := some (o1_number, o1_tossed, o1_heads)
theorem iX1_copyFrom_X1 : ∀ w ∈ u_ws RX1 TX1 3, w ∈ wsX1_copyFrom := fun w h => List.mem_cons_of_mem _ (List.mem_append_right _ h)
set_option maxHeartbeats 4000000 in
set_option maxRecDepth 100000 in
theorem c_X1_copyFrom (l : Launch) (D : va_G) (y : Nat → ClassId) (fl : Nat) (sz : Nat) (a_t : Nat) (a_o1 : Nat) (t_number : Int32) (t_tossed : Int32) (t_heads : Int32) (o1_number : Int32) (o1_tossed : Int32) (o1_heads : Int32) (t_number' : Int32) (t_tossed' : Int32) (t_heads' : Int32) (hF : F_X1_copyFrom fl t_number t_tossed t_heads o1_number o1_tossed o1_heads = some (t_number', t_tossed', t_heads')) : Met l yX1_copyFrom wsX1_copyFrom (rmq 0 0) (wrP D y [(a_t, .inr (5, [.int t_number, .int t_tossed, .int t_heads])), (a_o1, .inr (5, [.int o1_number, .int o1_tossed, .int o1_heads]))] sz [.ref a_t, .ref a_o1]) (wQv D y [(a_t, .inr (5, [.int t_number', .int t_tossed', .int t_heads'])), (a_o1, .inr (5, [.int o1_number, .int o1_tossed, .int o1_heads]))] [(a_t, .inr (5, [.int t_number, .int t_tossed, .int t_heads])), (a_o1, .inr (5, [.int o1_number, .int o1_tossed, .int o1_heads]))] sz) 0 0 (va_A [(a_t, .inr (5, [.int t_number, .int t_tossed, .int t_heads])), (a_o1, .inr (5, [.int o1_number, .int o1_tossed, .int o1_heads]))] sz) := by
  refine Met.ofW (cc := cX1_copyFrom) (maxL := 2) (ret := none) (by decide) rfl ?_
  intro p e s m args below meth c s₁ B hml hv
  obtain ⟨hav, hsz, hP, hK, hD0⟩ := hv
  have hx := B.exec
  have hb := B.bytes
  have hr := B.returns
  have hts := atoms_spec (ws := wsX1_copyFrom) B.pre
  have hown : s.vm.findClass RX1 = some m.cls := findClass_of_methodNamed B.named
  have hlocks := B.notSynchronized
  subst hsz
  have hD := hD0.self (sz := s.heap.size)
  obtain ⟨A, hAe⟩ : ∃ A : Nat → Prop, va_A [(a_t, .inr (5, [.int t_number, .int t_tossed, .int t_heads])), (a_o1, .inr (5, [.int o1_number, .int o1_tossed, .int o1_heads]))] s.heap.size = A := ⟨_, rfl⟩
  rw [hAe] at hD
  have hA : ∀ q, s.heap.size ≤ q → A q := fun q h => by rw [← hAe]; exact Or.inr h
  have hS : va_S A s.heap s.heap [] := va_S.rf
  refine W_q (R1 := (rmq 0 0)) rfl (fun Q0 hQ0 => ?_)
  unfold F_X1_copyFrom at hF
  refine W_entry hav (Nat.le_of_ble_eq_true rfl) (fun ls hl => ?_)
  have hl : lv_has ls 2 [(0, .ref a_t), (1, .ref a_o1)] := hl
  refine lv_aload_n hx hb dX1_copyFrom_0 rfl (lv_at hl 0 rfl) ?_
  refine lv_aload_n hx hb dX1_copyFrom_1 rfl (lv_at hl 1 rfl) ?_
  refine va_get (D := D) (ci := 5) (v := .int o1_number) (C := RX1) (T := TX1) (N := 3) hx hb hts iX1_copyFrom_X1 hown hK hP 1 rfl rfl 0 (by decide) (hts (.fieldLink RX1 9 "SkipArchive$Coin" "number" "I") (List.mem_of_getElem? (i := 1) rfl)) (fun _ h9 => h9) rfl dX1_copyFrom_2 ?_
  refine va_put (D := D) (ci := 5) (v := .int o1_number) (ty := .int) (C := RX1) (T := TX1) (N := 3) hx hb hts iX1_copyFrom_X1 tyX1 tyX1_ok nmX1 hown hK hP hD hS 0 rfl rfl 0 (by decide) (hts (.fieldLink RX1 9 "SkipArchive$Coin" "number" "I") (List.mem_of_getElem? (i := 1) rfl)) (fun _ h9 => h9) rfl (by decide +kernel) rfl rfl (Nat.le_of_ble_eq_true rfl) dX1_copyFrom_5 (fun H locs hP hD hS => ?_)
  have hP : va_P D vwCl [(a_t, .inr (5, [.int o1_number, .int t_tossed, .int t_heads])), (a_o1, .inr (5, [.int o1_number, .int o1_tossed, .int o1_heads]))] H := hP
  have hD : va_D A [(a_t, .inr (5, [.int o1_number, .int t_tossed, .int t_heads])), (a_o1, .inr (5, [.int o1_number, .int o1_tossed, .int o1_heads]))] := hD
  refine lv_aload_n hx hb dX1_copyFrom_8 rfl (lv_at hl 0 rfl) ?_
  refine lv_aload_n hx hb dX1_copyFrom_9 rfl (lv_at hl 1 rfl) ?_
  refine va_get (D := D) (ci := 5) (v := .int o1_tossed) (C := RX1) (T := TX1) (N := 3) hx hb hts iX1_copyFrom_X1 hown hK hP 1 rfl rfl 1 (by decide) (hts (.fieldLink RX1 15 "SkipArchive$Coin" "tossed" "I") (List.mem_of_getElem? (i := 2) rfl)) (fun _ h9 => h9) rfl dX1_copyFrom_10 ?_
  refine va_put (D := D) (ci := 5) (v := .int o1_tossed) (ty := .int) (C := RX1) (T := TX1) (N := 3) hx hb hts iX1_copyFrom_X1 tyX1 tyX1_ok nmX1 hown hK hP hD hS 0 rfl rfl 1 (by decide) (hts (.fieldLink RX1 15 "SkipArchive$Coin" "tossed" "I") (List.mem_of_getElem? (i := 2) rfl)) (fun _ h9 => h9) rfl (by decide +kernel) rfl rfl (Nat.le_of_ble_eq_true rfl) dX1_copyFrom_13 (fun H locs hP hD hS => ?_)
  have hP : va_P D vwCl [(a_t, .inr (5, [.int o1_number, .int o1_tossed, .int t_heads])), (a_o1, .inr (5, [.int o1_number, .int o1_tossed, .int o1_heads]))] H := hP
  have hD : va_D A [(a_t, .inr (5, [.int o1_number, .int o1_tossed, .int t_heads])), (a_o1, .inr (5, [.int o1_number, .int o1_tossed, .int o1_heads]))] := hD
  refine lv_aload_n hx hb dX1_copyFrom_16 rfl (lv_at hl 0 rfl) ?_
  refine lv_aload_n hx hb dX1_copyFrom_17 rfl (lv_at hl 1 rfl) ?_
  refine va_get (D := D) (ci := 5) (v := .int o1_heads) (C := RX1) (T := TX1) (N := 3) hx hb hts iX1_copyFrom_X1 hown hK hP 1 rfl rfl 2 (by decide) (hts (.fieldLink RX1 18 "SkipArchive$Coin" "heads" "I") (List.mem_of_getElem? (i := 3) rfl)) (fun _ h9 => h9) rfl dX1_copyFrom_18 ?_
  refine va_put (D := D) (ci := 5) (v := .int o1_heads) (ty := .int) (C := RX1) (T := TX1) (N := 3) hx hb hts iX1_copyFrom_X1 tyX1 tyX1_ok nmX1 hown hK hP hD hS 0 rfl rfl 2 (by decide) (hts (.fieldLink RX1 18 "SkipArchive$Coin" "heads" "I") (List.mem_of_getElem? (i := 3) rfl)) (fun _ h9 => h9) rfl (by decide +kernel) rfl rfl (Nat.le_of_ble_eq_true rfl) dX1_copyFrom_21 (fun H locs hP hD hS => ?_)
  have hP : va_P D vwCl [(a_t, .inr (5, [.int o1_number, .int o1_tossed, .int o1_heads])), (a_o1, .inr (5, [.int o1_number, .int o1_tossed, .int o1_heads]))] H := hP
  have hD : va_D A [(a_t, .inr (5, [.int o1_number, .int o1_tossed, .int o1_heads])), (a_o1, .inr (5, [.int o1_number, .int o1_tossed, .int o1_heads]))] := hD
  obtain ⟨e0_24, e1_24, e2_24⟩ := inj3 hF
  rw [← e0_24, ← e1_24, ← e2_24] at hQ0
  rw [hQ0]
  exact ret_v hx hb hr hlocks hAe hK hP hD hS [0, 1] rfl rfl dX1_copyFrom_24
