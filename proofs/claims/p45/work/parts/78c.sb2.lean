set_option maxHeartbeats 4000000 in
set_option maxRecDepth 100000 in
theorem c_J6_stringSize_0f7a4 (l : Launch) (D : va_G) (y : Nat → ClassId) (v : Nat) (hv0 : v < 1000) : Met l yJ6_stringSize_0f7a4 wsJ6_stringSize_0f7a4 (rmq 0 0) (rdP D y [] [.int (nI v)]) (QcRead (nI (sb_dg v))) 0 0 (fun _ => False) := by
  by_cases h0 : v < 10
  · rw [show sb_dg v = 1 from if_pos h0]
    refine Met.ofW (cc := cJ6_stringSize_0f7a4) (maxL := 4) (ret := (some .int)) (by decide) rfl ?_
    intro p e s mi args below meth c s₁ B hml hv
    obtain ⟨hav, hP, hK⟩ := hv
    have hx := B.exec
    have hb := B.bytes
    have hr := B.returns
    have hts := atoms_spec (ws := wsJ6_stringSize_0f7a4) B.pre
    have hown : s.vm.findClass RJ6 = some mi.cls := findClass_of_methodNamed B.named
    have hlocks := B.notSynchronized
    refine W_q (R1 := (rmq 0 0)) rfl (fun Q0 hQ0 => ?_)
    refine W_entry hav (Nat.le_of_ble_eq_true rfl) (fun ls hl => ?_)
    have hl : lv_has ls 4 [(0, .int (nI v))] := hl
    refine lv_iconst (v := 1) hx hb dJ6_stringSize_0f7a4_0 (by decide) ?_
    refine lv_istore_n (lv' := [(1, .int ((1 : Int32))), (0, .int (nI v))]) hx hb dJ6_stringSize_0f7a4_1 rfl hl (by decide) rfl (fun ls hl => ?_)
    refine lv_iload_n hx hb dJ6_stringSize_0f7a4_2 rfl (lv_at hl 1 rfl) ?_
    refine lv_if_lt (tgt := 11) hx hb dJ6_stringSize_0f7a4_3 (by decide) (fun h9 => absurd h9 (nI_pos (by omega))) (fun _ => ?_)
    refine lv_iconst (v := 0) hx hb dJ6_stringSize_0f7a4_6 (by decide) ?_
    refine lv_istore_n (lv' := [(1, .int ((0 : Int32))), (0, .int (nI v))]) hx hb dJ6_stringSize_0f7a4_7 rfl hl (by decide) rfl (fun ls hl => ?_)
    refine lv_iload_n hx hb dJ6_stringSize_0f7a4_8 rfl (lv_at hl 1 rfl) ?_
    refine lv_ineg hx hb dJ6_stringSize_0f7a4_9 ?_
    refine lv_istore_n (lv' := [(0, .int (-(nI v))), (1, .int ((0 : Int32)))]) hx hb dJ6_stringSize_0f7a4_10 rfl hl (by decide) rfl (fun ls hl => ?_)
    refine lv_bipush (v := -10) hx hb dJ6_stringSize_0f7a4_11 (by decide) ?_
    refine lv_istore_n (lv' := [(2, .int ((-10 : Int32))), (0, .int (-(nI v))), (1, .int ((0 : Int32)))]) hx hb dJ6_stringSize_0f7a4_13 rfl hl (by decide) rfl (fun ls hl => ?_)
    refine lv_iconst (v := 1) hx hb dJ6_stringSize_0f7a4_14 (by decide) ?_
    refine lv_istore_n (lv' := [(3, .int ((1 : Int32))), (2, .int ((-10 : Int32))), (0, .int (-(nI v))), (1, .int ((0 : Int32)))]) hx hb dJ6_stringSize_0f7a4_15 rfl hl (by decide) rfl (fun ls hl => ?_)
    refine lv_iload_n hx hb dJ6_stringSize_0f7a4_16 rfl (lv_at hl 0 rfl) ?_
    refine lv_bipush (v := 10) hx hb dJ6_stringSize_0f7a4_17 (by decide) ?_
    refine lv_icmp_ge (tgt := 42) hx hb dJ6_stringSize_0f7a4_19 (by decide) (fun h9 => absurd h9 (by decide)) (fun _ => ?_)
    refine lv_iload_n hx hb dJ6_stringSize_0f7a4_22 rfl (lv_at hl 2 rfl) ?_
    refine lv_iload_n hx hb dJ6_stringSize_0f7a4_23 rfl (lv_at hl 1 rfl) ?_
    refine lv_icmp_le (tgt := 31) hx hb dJ6_stringSize_0f7a4_24 (by decide) (fun h9 => absurd h9 (sNL (k := 10) (by omega) (by omega) (by omega))) (fun _ => ?_)
    refine lv_iload_n hx hb dJ6_stringSize_0f7a4_27 rfl (lv_at hl 0 rfl) ?_
    refine lv_iload_n hx hb dJ6_stringSize_0f7a4_28 rfl (lv_at hl 3 rfl) ?_
    refine lv_iadd hx hb dJ6_stringSize_0f7a4_29 ?_
    refine s1_is (z := (1 : Int32)) (by decide) ?_
    rw [hQ0]
    exact W.iret (v := (1 : Int32)) hx hb hr (fun t ht hW => ⟨rfl, ht⟩) (fun _ h => nomatch h) dJ6_stringSize_0f7a4_30
  · skip
    by_cases h1 : v < 100
    · rw [show sb_dg v = 2 from (if_neg h0).trans (if_pos h1)]
      refine Met.ofW (cc := cJ6_stringSize_0f7a4) (maxL := 4) (ret := (some .int)) (by decide) rfl ?_
      intro p e s mi args below meth c s₁ B hml hv
      obtain ⟨hav, hP, hK⟩ := hv
      have hx := B.exec
      have hb := B.bytes
      have hr := B.returns
      have hts := atoms_spec (ws := wsJ6_stringSize_0f7a4) B.pre
      have hown : s.vm.findClass RJ6 = some mi.cls := findClass_of_methodNamed B.named
      have hlocks := B.notSynchronized
      refine W_q (R1 := (rmq 0 0)) rfl (fun Q0 hQ0 => ?_)
      refine W_entry hav (Nat.le_of_ble_eq_true rfl) (fun ls hl => ?_)
      have hl : lv_has ls 4 [(0, .int (nI v))] := hl
      refine lv_iconst (v := 1) hx hb dJ6_stringSize_0f7a4_0 (by decide) ?_
      refine lv_istore_n (lv' := [(1, .int ((1 : Int32))), (0, .int (nI v))]) hx hb dJ6_stringSize_0f7a4_1 rfl hl (by decide) rfl (fun ls hl => ?_)
      refine lv_iload_n hx hb dJ6_stringSize_0f7a4_2 rfl (lv_at hl 1 rfl) ?_
      refine lv_if_lt (tgt := 11) hx hb dJ6_stringSize_0f7a4_3 (by decide) (fun h9 => absurd h9 (nI_pos (by omega))) (fun _ => ?_)
      refine lv_iconst (v := 0) hx hb dJ6_stringSize_0f7a4_6 (by decide) ?_
      refine lv_istore_n (lv' := [(1, .int ((0 : Int32))), (0, .int (nI v))]) hx hb dJ6_stringSize_0f7a4_7 rfl hl (by decide) rfl (fun ls hl => ?_)
      refine lv_iload_n hx hb dJ6_stringSize_0f7a4_8 rfl (lv_at hl 1 rfl) ?_
      refine lv_ineg hx hb dJ6_stringSize_0f7a4_9 ?_
      refine lv_istore_n (lv' := [(0, .int (-(nI v))), (1, .int ((0 : Int32)))]) hx hb dJ6_stringSize_0f7a4_10 rfl hl (by decide) rfl (fun ls hl => ?_)
      refine lv_bipush (v := -10) hx hb dJ6_stringSize_0f7a4_11 (by decide) ?_
      refine lv_istore_n (lv' := [(2, .int ((-10 : Int32))), (0, .int (-(nI v))), (1, .int ((0 : Int32)))]) hx hb dJ6_stringSize_0f7a4_13 rfl hl (by decide) rfl (fun ls hl => ?_)
      refine lv_iconst (v := 1) hx hb dJ6_stringSize_0f7a4_14 (by decide) ?_
      refine lv_istore_n (lv' := [(3, .int ((1 : Int32))), (2, .int ((-10 : Int32))), (0, .int (-(nI v))), (1, .int ((0 : Int32)))]) hx hb dJ6_stringSize_0f7a4_15 rfl hl (by decide) rfl (fun ls hl => ?_)
      refine lv_iload_n hx hb dJ6_stringSize_0f7a4_16 rfl (lv_at hl 0 rfl) ?_
      refine lv_bipush (v := 10) hx hb dJ6_stringSize_0f7a4_17 (by decide) ?_
      refine lv_icmp_ge (tgt := 42) hx hb dJ6_stringSize_0f7a4_19 (by decide) (fun h9 => absurd h9 (by decide)) (fun _ => ?_)
      refine lv_iload_n hx hb dJ6_stringSize_0f7a4_22 rfl (lv_at hl 2 rfl) ?_
      refine lv_iload_n hx hb dJ6_stringSize_0f7a4_23 rfl (lv_at hl 1 rfl) ?_
      refine lv_icmp_le (tgt := 31) hx hb dJ6_stringSize_0f7a4_24 (by decide) (fun _ => ?_) (fun h9 => absurd (sL (k := 10) (by omega) (by omega) (by omega)) h9)
      refine lv_bipush (v := 10) hx hb dJ6_stringSize_0f7a4_31 (by decide) ?_
      refine lv_iload_n hx hb dJ6_stringSize_0f7a4_33 rfl (lv_at hl 1 rfl) ?_
      refine lv_imul hx hb dJ6_stringSize_0f7a4_34 ?_
      refine s1_is (z := (-100 : Int32)) (by decide) ?_
      refine lv_istore_n (lv' := [(2, .int ((-100 : Int32))), (3, .int ((1 : Int32))), (0, .int (-(nI v))), (1, .int ((0 : Int32)))]) hx hb dJ6_stringSize_0f7a4_35 rfl hl (by decide) rfl (fun ls hl => ?_)
      refine lv_iinc (v := (2 : Int32)) (lv' := [(3, .int ((2 : Int32))), (2, .int ((-100 : Int32))), (0, .int (-(nI v))), (1, .int ((0 : Int32)))]) hx hb dJ6_stringSize_0f7a4_36 hl (k := 1) rfl (by decide) (by decide) rfl (fun ls hl => ?_)
      refine lv_goto (tgt := 16) hx hb dJ6_stringSize_0f7a4_39 (by decide) ?_
      refine lv_iload_n hx hb dJ6_stringSize_0f7a4_16 rfl (lv_at hl 0 rfl) ?_
      refine lv_bipush (v := 10) hx hb dJ6_stringSize_0f7a4_17 (by decide) ?_
      refine lv_icmp_ge (tgt := 42) hx hb dJ6_stringSize_0f7a4_19 (by decide) (fun h9 => absurd h9 (by decide)) (fun _ => ?_)
      refine lv_iload_n hx hb dJ6_stringSize_0f7a4_22 rfl (lv_at hl 2 rfl) ?_
      refine lv_iload_n hx hb dJ6_stringSize_0f7a4_23 rfl (lv_at hl 1 rfl) ?_
      refine lv_icmp_le (tgt := 31) hx hb dJ6_stringSize_0f7a4_24 (by decide) (fun h9 => absurd h9 (sNL (k := 100) (by omega) (by omega) (by omega))) (fun _ => ?_)
      refine lv_iload_n hx hb dJ6_stringSize_0f7a4_27 rfl (lv_at hl 0 rfl) ?_
      refine lv_iload_n hx hb dJ6_stringSize_0f7a4_28 rfl (lv_at hl 3 rfl) ?_
      refine lv_iadd hx hb dJ6_stringSize_0f7a4_29 ?_
      refine s1_is (z := (2 : Int32)) (by decide) ?_
      rw [hQ0]
      exact W.iret (v := (2 : Int32)) hx hb hr (fun t ht hW => ⟨rfl, ht⟩) (fun _ h => nomatch h) dJ6_stringSize_0f7a4_30
    · skip
      have h2 : v < 1000 := hv0
      rw [show sb_dg v = 3 from (if_neg h0).trans ((if_neg h1).trans (if_pos h2))]
      refine Met.ofW (cc := cJ6_stringSize_0f7a4) (maxL := 4) (ret := (some .int)) (by decide) rfl ?_
      intro p e s mi args below meth c s₁ B hml hv
      obtain ⟨hav, hP, hK⟩ := hv
      have hx := B.exec
      have hb := B.bytes
      have hr := B.returns
      have hts := atoms_spec (ws := wsJ6_stringSize_0f7a4) B.pre
      have hown : s.vm.findClass RJ6 = some mi.cls := findClass_of_methodNamed B.named
      have hlocks := B.notSynchronized
      refine W_q (R1 := (rmq 0 0)) rfl (fun Q0 hQ0 => ?_)
      refine W_entry hav (Nat.le_of_ble_eq_true rfl) (fun ls hl => ?_)
      have hl : lv_has ls 4 [(0, .int (nI v))] := hl
      refine lv_iconst (v := 1) hx hb dJ6_stringSize_0f7a4_0 (by decide) ?_
      refine lv_istore_n (lv' := [(1, .int ((1 : Int32))), (0, .int (nI v))]) hx hb dJ6_stringSize_0f7a4_1 rfl hl (by decide) rfl (fun ls hl => ?_)
      refine lv_iload_n hx hb dJ6_stringSize_0f7a4_2 rfl (lv_at hl 1 rfl) ?_
      refine lv_if_lt (tgt := 11) hx hb dJ6_stringSize_0f7a4_3 (by decide) (fun h9 => absurd h9 (nI_pos (by omega))) (fun _ => ?_)
      refine lv_iconst (v := 0) hx hb dJ6_stringSize_0f7a4_6 (by decide) ?_
      refine lv_istore_n (lv' := [(1, .int ((0 : Int32))), (0, .int (nI v))]) hx hb dJ6_stringSize_0f7a4_7 rfl hl (by decide) rfl (fun ls hl => ?_)
      refine lv_iload_n hx hb dJ6_stringSize_0f7a4_8 rfl (lv_at hl 1 rfl) ?_
      refine lv_ineg hx hb dJ6_stringSize_0f7a4_9 ?_
      refine lv_istore_n (lv' := [(0, .int (-(nI v))), (1, .int ((0 : Int32)))]) hx hb dJ6_stringSize_0f7a4_10 rfl hl (by decide) rfl (fun ls hl => ?_)
      refine lv_bipush (v := -10) hx hb dJ6_stringSize_0f7a4_11 (by decide) ?_
      refine lv_istore_n (lv' := [(2, .int ((-10 : Int32))), (0, .int (-(nI v))), (1, .int ((0 : Int32)))]) hx hb dJ6_stringSize_0f7a4_13 rfl hl (by decide) rfl (fun ls hl => ?_)
      refine lv_iconst (v := 1) hx hb dJ6_stringSize_0f7a4_14 (by decide) ?_
      refine lv_istore_n (lv' := [(3, .int ((1 : Int32))), (2, .int ((-10 : Int32))), (0, .int (-(nI v))), (1, .int ((0 : Int32)))]) hx hb dJ6_stringSize_0f7a4_15 rfl hl (by decide) rfl (fun ls hl => ?_)
      refine lv_iload_n hx hb dJ6_stringSize_0f7a4_16 rfl (lv_at hl 0 rfl) ?_
      refine lv_bipush (v := 10) hx hb dJ6_stringSize_0f7a4_17 (by decide) ?_
      refine lv_icmp_ge (tgt := 42) hx hb dJ6_stringSize_0f7a4_19 (by decide) (fun h9 => absurd h9 (by decide)) (fun _ => ?_)
      refine lv_iload_n hx hb dJ6_stringSize_0f7a4_22 rfl (lv_at hl 2 rfl) ?_
      refine lv_iload_n hx hb dJ6_stringSize_0f7a4_23 rfl (lv_at hl 1 rfl) ?_
      refine lv_icmp_le (tgt := 31) hx hb dJ6_stringSize_0f7a4_24 (by decide) (fun _ => ?_) (fun h9 => absurd (sL (k := 10) (by omega) (by omega) (by omega)) h9)
      refine lv_bipush (v := 10) hx hb dJ6_stringSize_0f7a4_31 (by decide) ?_
      refine lv_iload_n hx hb dJ6_stringSize_0f7a4_33 rfl (lv_at hl 1 rfl) ?_
      refine lv_imul hx hb dJ6_stringSize_0f7a4_34 ?_
      refine s1_is (z := (-100 : Int32)) (by decide) ?_
      refine lv_istore_n (lv' := [(2, .int ((-100 : Int32))), (3, .int ((1 : Int32))), (0, .int (-(nI v))), (1, .int ((0 : Int32)))]) hx hb dJ6_stringSize_0f7a4_35 rfl hl (by decide) rfl (fun ls hl => ?_)
      refine lv_iinc (v := (2 : Int32)) (lv' := [(3, .int ((2 : Int32))), (2, .int ((-100 : Int32))), (0, .int (-(nI v))), (1, .int ((0 : Int32)))]) hx hb dJ6_stringSize_0f7a4_36 hl (k := 1) rfl (by decide) (by decide) rfl (fun ls hl => ?_)
      refine lv_goto (tgt := 16) hx hb dJ6_stringSize_0f7a4_39 (by decide) ?_
      refine lv_iload_n hx hb dJ6_stringSize_0f7a4_16 rfl (lv_at hl 0 rfl) ?_
      refine lv_bipush (v := 10) hx hb dJ6_stringSize_0f7a4_17 (by decide) ?_
      refine lv_icmp_ge (tgt := 42) hx hb dJ6_stringSize_0f7a4_19 (by decide) (fun h9 => absurd h9 (by decide)) (fun _ => ?_)
      refine lv_iload_n hx hb dJ6_stringSize_0f7a4_22 rfl (lv_at hl 2 rfl) ?_
      refine lv_iload_n hx hb dJ6_stringSize_0f7a4_23 rfl (lv_at hl 1 rfl) ?_
      refine lv_icmp_le (tgt := 31) hx hb dJ6_stringSize_0f7a4_24 (by decide) (fun _ => ?_) (fun h9 => absurd (sL (k := 100) (by omega) (by omega) (by omega)) h9)
      refine lv_bipush (v := 10) hx hb dJ6_stringSize_0f7a4_31 (by decide) ?_
      refine lv_iload_n hx hb dJ6_stringSize_0f7a4_33 rfl (lv_at hl 1 rfl) ?_
      refine lv_imul hx hb dJ6_stringSize_0f7a4_34 ?_
      refine s1_is (z := (-1000 : Int32)) (by decide) ?_
      refine lv_istore_n (lv' := [(2, .int ((-1000 : Int32))), (3, .int ((2 : Int32))), (0, .int (-(nI v))), (1, .int ((0 : Int32)))]) hx hb dJ6_stringSize_0f7a4_35 rfl hl (by decide) rfl (fun ls hl => ?_)
      refine lv_iinc (v := (3 : Int32)) (lv' := [(3, .int ((3 : Int32))), (2, .int ((-1000 : Int32))), (0, .int (-(nI v))), (1, .int ((0 : Int32)))]) hx hb dJ6_stringSize_0f7a4_36 hl (k := 1) rfl (by decide) (by decide) rfl (fun ls hl => ?_)
      refine lv_goto (tgt := 16) hx hb dJ6_stringSize_0f7a4_39 (by decide) ?_
      refine lv_iload_n hx hb dJ6_stringSize_0f7a4_16 rfl (lv_at hl 0 rfl) ?_
      refine lv_bipush (v := 10) hx hb dJ6_stringSize_0f7a4_17 (by decide) ?_
      refine lv_icmp_ge (tgt := 42) hx hb dJ6_stringSize_0f7a4_19 (by decide) (fun h9 => absurd h9 (by decide)) (fun _ => ?_)
      refine lv_iload_n hx hb dJ6_stringSize_0f7a4_22 rfl (lv_at hl 2 rfl) ?_
      refine lv_iload_n hx hb dJ6_stringSize_0f7a4_23 rfl (lv_at hl 1 rfl) ?_
      refine lv_icmp_le (tgt := 31) hx hb dJ6_stringSize_0f7a4_24 (by decide) (fun h9 => absurd h9 (sNL (k := 1000) (by omega) (by omega) (by omega))) (fun _ => ?_)
      refine lv_iload_n hx hb dJ6_stringSize_0f7a4_27 rfl (lv_at hl 0 rfl) ?_
      refine lv_iload_n hx hb dJ6_stringSize_0f7a4_28 rfl (lv_at hl 3 rfl) ?_
      refine lv_iadd hx hb dJ6_stringSize_0f7a4_29 ?_
      refine s1_is (z := (3 : Int32)) (by decide) ?_
      rw [hQ0]
      exact W.iret (v := (3 : Int32)) hx hb hr (fun t ht hW => ⟨rfl, ht⟩) (fun _ h => nomatch h) dJ6_stringSize_0f7a4_30
set_option maxHeartbeats 4000000 in
set_option maxRecDepth 100000 in
theorem c_J6_getChars_ba4f3 (l : Launch) (D : va_G) (y : Nat → ClassId) (sz : Nat) (v m n k : Nat) (b : Nat → Int32) (hk : k < 1000) (hn : n + sb_dg k ≤ m) (hm : m ≤ 65536) : Met l yJ6_getChars_ba4f3 wsJ6_getChars_ba4f3 (rmx 0 0 0 0) (jrP D y [(v, .inl (y 2, m, .inl b))] sz [.int (nI k), .int (nI (n + sb_dg k)), .ref v]) (wQui (S := Unit) D y (nI n) (fun _ => True) (fun _ => [(v, .inl (y 2, m, .inl (gcB b n k)))]) [(v, .inl (y 2, m, .inl b))] sz) 0 0 (va_A [(v, .inl (y 2, m, .inl b))] sz) := by
  by_cases h0 : k < 10
  · have ed : sb_dg k = 1 := if_pos h0
    rw [ed] at hn
    rw [ed, show gcB b n k = upd b n (sb_b (48 + k % 10)) from if_pos h0]
    refine Met.ofW (cc := cJ6_getChars_ba4f3) (maxL := 7) (ret := (some .int)) (by decide) rfl ?_
    intro p e s mi args below meth c s₁ B hml hv
    obtain ⟨hav, hsz, hP, hK, hD0, hJ⟩ := hv
    have hx := B.exec
    have hb := B.bytes
    have hr := B.returns
    have hts := atoms_spec (ws := wsJ6_getChars_ba4f3) B.pre
    have hown : s.vm.findClass RJ6 = some mi.cls := findClass_of_methodNamed B.named
    have hlocks := B.notSynchronized
    subst hsz
    have hD := hD0.self (sz := s.heap.size)
    obtain ⟨A, hAe⟩ : ∃ A : Nat → Prop, va_A [(v, .inl (y 2, m, .inl b))] s.heap.size = A := ⟨_, rfl⟩
    rw [hAe] at hD
    rw [hAe] at hJ
    have hA : ∀ q, s.heap.size ≤ q → A q := fun q h => by rw [← hAe]; exact Or.inr h
    have hS : va_S A s.heap s.heap [] := va_S.rf
    refine W_q (R1 := (rmx 0 0 0 0)) rfl (fun Q0 hQ0 => ?_)
    refine W_entry hav (Nat.le_of_ble_eq_true rfl) (fun ls hl => ?_)
    have hl : lv_has ls 7 [(0, .int (nI k)), (1, .int (nI (n + 1))), (2, .ref v)] := hl
    obtain ⟨-, -, -, ⟨t1, hZ1, hT1⟩, ⟨t2, hZ2, hT2⟩⟩ := hJ
    refine lv_iload_n hx hb dJ6_getChars_ba4f3_0 rfl (lv_at hl 1 rfl) ?_
    refine lv_istore (lv' := [(5, .int (nI (n + 1))), (0, .int (nI k)), (1, .int (nI (n + 1))), (2, .ref v)]) hx hb dJ6_getChars_ba4f3_1 hl (by decide) rfl (fun ls hl => ?_)
    refine lv_iload_n hx hb dJ6_getChars_ba4f3_3 rfl (lv_at hl 1 rfl) ?_
    refine lv_if_ge (tgt := 11) hx hb dJ6_getChars_ba4f3_4 (by decide) (fun _ => ?_) (fun h9 => absurd (nI_pos2 (by omega)) h9)
    refine lv_iconst (v := 0) hx hb dJ6_getChars_ba4f3_11 (by decide) ?_
    refine lv_istore (lv' := [(6, .int ((0 : Int32))), (5, .int (nI (n + 1))), (0, .int (nI k)), (1, .int (nI (n + 1))), (2, .ref v)]) hx hb dJ6_getChars_ba4f3_12 hl (by decide) rfl (fun ls hl => ?_)
    refine lv_iload hx hb dJ6_getChars_ba4f3_14 (lv_at hl 0 rfl) ?_
    refine lv_if_ne (tgt := 22) hx hb dJ6_getChars_ba4f3_16 (by decide) (fun h9 => absurd (rfl) h9) (fun _ => ?_)
    refine lv_iload_n hx hb dJ6_getChars_ba4f3_19 rfl (lv_at hl 2 rfl) ?_
    refine lv_ineg hx hb dJ6_getChars_ba4f3_20 ?_
    refine lv_istore_n (lv' := [(0, .int (-(nI k))), (6, .int ((0 : Int32))), (5, .int (nI (n + 1))), (1, .int (nI (n + 1))), (2, .ref v)]) hx hb dJ6_getChars_ba4f3_21 rfl hl (by decide) rfl (fun ls hl => ?_)
    refine lv_iload_n hx hb dJ6_getChars_ba4f3_22 rfl (lv_at hl 0 rfl) ?_
    refine lv_bipush (v := -100) hx hb dJ6_getChars_ba4f3_23 (by decide) ?_
    refine lv_icmp_gt (tgt := 72) hx hb dJ6_getChars_ba4f3_25 (by decide) (fun _ => ?_) (fun h9 => absurd (sG (k := 100) (by omega) (by omega) (by omega)) h9)
    refine lv_aload_n hx hb dJ6_getChars_ba4f3_72 rfl (lv_at hl 4 rfl) ?_
    refine lv_iinc (v := nI n) (lv' := [(5, .int (nI n)), (0, .int (-(nI k))), (6, .int ((0 : Int32))), (1, .int (nI (n + 1))), (2, .ref v)]) hx hb dJ6_getChars_ba4f3_73 hl (k := 2) rfl dec1 (by decide) rfl (fun ls hl => ?_)
    refine lv_iload hx hb dJ6_getChars_ba4f3_76 (lv_at hl 0 rfl) ?_
    refine va_gets hx hb hZ1 hS hown (hts (.fieldLink RJ6 83 "java/lang/Integer" "DigitOnes" "[B") (List.mem_of_getElem? (i := 1) rfl)) (fun _ h9 => h9) dJ6_getChars_ba4f3_78 ?_
    refine lv_iload_n hx hb dJ6_getChars_ba4f3_81 rfl (lv_at hl 1 rfl) ?_
    refine lv_ineg hx hb dJ6_getChars_ba4f3_82 ?_
    refine s1_is (z := nI (k)) (Int32.neg_neg) ?_
    refine va_tb hx hb hT1 hS (vp_in_nI (n := k) (N := 100) (by omega) (by decide)) (v := .int (nI (48 + k % 10))) (by show Value.int (nI (48 + (nI (k)).toNatClampNeg % 10)) = _; rw [nI_clamp (by omega)]) dJ6_getChars_ba4f3_83 ?_
    refine va_bast hx hb hK hP hD hS 0 2 rfl rfl (vp_in_nI (n := n) (N := m) (by omega) (by omega)) dJ6_getChars_ba4f3_84 (fun H locs hP hD hS => ?_)
    have hP : va_P D vwCl [(v, .inl (y 2, m, .inl (upd (b) (nI n).toNatClampNeg (vp_nar .byte (nI (48 + k % 10))))))] H := hP
    have hD : va_D A [(v, .inl (y 2, m, .inl (upd (b) (nI n).toNatClampNeg (vp_nar .byte (nI (48 + k % 10))))))] := hD
    have ec : upd (b) (nI n).toNatClampNeg (vp_nar .byte (nI (48 + k % 10))) = upd (b) (n) (sb_b (48 + k % 10)) := by rw [nI_clamp (by omega), vp_nar_byte]; rfl
    rw [ec] at hP hD
    have hP : va_P D vwCl [(v, .inl (y 2, m, .inl (upd (b) (n) (sb_b (48 + k % 10)))))] H := hP
    have hD : va_D A [(v, .inl (y 2, m, .inl (upd (b) (n) (sb_b (48 + k % 10)))))] := hD
    refine lv_iload_n hx hb dJ6_getChars_ba4f3_85 rfl (lv_at hl 1 rfl) ?_
    refine lv_bipush (v := -9) hx hb dJ6_getChars_ba4f3_86 (by decide) ?_
    refine lv_icmp_ge (tgt := 104) hx hb dJ6_getChars_ba4f3_88 (by decide) (fun _ => ?_) (fun h9 => absurd (sGE (k := 9) (by omega) (by omega) (by omega)) h9)
    refine lv_iload hx hb dJ6_getChars_ba4f3_104 (lv_at hl 2 rfl) ?_
    refine lv_if_eq (tgt := 118) hx hb dJ6_getChars_ba4f3_106 (by decide) (fun _ => ?_) (fun h9 => absurd (rfl) h9)
    refine lv_iload hx hb dJ6_getChars_ba4f3_118 (lv_at hl 0 rfl) ?_
    rw [hQ0]
    exact ret_ui (()) (trivial) hx hb hr hlocks hAe hK hP hD hS [0] rfl rfl dJ6_getChars_ba4f3_120
  · skip
    by_cases h1 : k < 100
    · have ed : sb_dg k = 2 := (if_neg h0).trans (if_pos h1)
      rw [ed] at hn
      rw [ed, show gcB b n k = upd (upd b (n + 1) (sb_b (48 + k % 10))) n (sb_b (48 + k / 10)) from (if_neg h0).trans (if_pos h1)]
      refine Met.ofW (cc := cJ6_getChars_ba4f3) (maxL := 7) (ret := (some .int)) (by decide) rfl ?_
      intro p e s mi args below meth c s₁ B hml hv
      obtain ⟨hav, hsz, hP, hK, hD0, hJ⟩ := hv
      have hx := B.exec
      have hb := B.bytes
      have hr := B.returns
      have hts := atoms_spec (ws := wsJ6_getChars_ba4f3) B.pre
      have hown : s.vm.findClass RJ6 = some mi.cls := findClass_of_methodNamed B.named
      have hlocks := B.notSynchronized
      subst hsz
      have hD := hD0.self (sz := s.heap.size)
      obtain ⟨A, hAe⟩ : ∃ A : Nat → Prop, va_A [(v, .inl (y 2, m, .inl b))] s.heap.size = A := ⟨_, rfl⟩
      rw [hAe] at hD
      rw [hAe] at hJ
      have hA : ∀ q, s.heap.size ≤ q → A q := fun q h => by rw [← hAe]; exact Or.inr h
      have hS : va_S A s.heap s.heap [] := va_S.rf
      refine W_q (R1 := (rmx 0 0 0 0)) rfl (fun Q0 hQ0 => ?_)
      refine W_entry hav (Nat.le_of_ble_eq_true rfl) (fun ls hl => ?_)
      have hl : lv_has ls 7 [(0, .int (nI k)), (1, .int (nI (n + 2))), (2, .ref v)] := hl
      obtain ⟨-, -, -, ⟨t1, hZ1, hT1⟩, ⟨t2, hZ2, hT2⟩⟩ := hJ
      refine lv_iload_n hx hb dJ6_getChars_ba4f3_0 rfl (lv_at hl 1 rfl) ?_
      refine lv_istore (lv' := [(5, .int (nI (n + 2))), (0, .int (nI k)), (1, .int (nI (n + 2))), (2, .ref v)]) hx hb dJ6_getChars_ba4f3_1 hl (by decide) rfl (fun ls hl => ?_)
      refine lv_iload_n hx hb dJ6_getChars_ba4f3_3 rfl (lv_at hl 1 rfl) ?_
      refine lv_if_ge (tgt := 11) hx hb dJ6_getChars_ba4f3_4 (by decide) (fun _ => ?_) (fun h9 => absurd (nI_pos2 (by omega)) h9)
      refine lv_iconst (v := 0) hx hb dJ6_getChars_ba4f3_11 (by decide) ?_
      refine lv_istore (lv' := [(6, .int ((0 : Int32))), (5, .int (nI (n + 2))), (0, .int (nI k)), (1, .int (nI (n + 2))), (2, .ref v)]) hx hb dJ6_getChars_ba4f3_12 hl (by decide) rfl (fun ls hl => ?_)
      refine lv_iload hx hb dJ6_getChars_ba4f3_14 (lv_at hl 0 rfl) ?_
      refine lv_if_ne (tgt := 22) hx hb dJ6_getChars_ba4f3_16 (by decide) (fun h9 => absurd (rfl) h9) (fun _ => ?_)
      refine lv_iload_n hx hb dJ6_getChars_ba4f3_19 rfl (lv_at hl 2 rfl) ?_
      refine lv_ineg hx hb dJ6_getChars_ba4f3_20 ?_
      refine lv_istore_n (lv' := [(0, .int (-(nI k))), (6, .int ((0 : Int32))), (5, .int (nI (n + 2))), (1, .int (nI (n + 2))), (2, .ref v)]) hx hb dJ6_getChars_ba4f3_21 rfl hl (by decide) rfl (fun ls hl => ?_)
      refine lv_iload_n hx hb dJ6_getChars_ba4f3_22 rfl (lv_at hl 0 rfl) ?_
      refine lv_bipush (v := -100) hx hb dJ6_getChars_ba4f3_23 (by decide) ?_
      refine lv_icmp_gt (tgt := 72) hx hb dJ6_getChars_ba4f3_25 (by decide) (fun _ => ?_) (fun h9 => absurd (sG (k := 100) (by omega) (by omega) (by omega)) h9)
      refine lv_aload_n hx hb dJ6_getChars_ba4f3_72 rfl (lv_at hl 4 rfl) ?_
      refine lv_iinc (v := nI (n + 1)) (lv' := [(5, .int (nI (n + 1))), (0, .int (-(nI k))), (6, .int ((0 : Int32))), (1, .int (nI (n + 2))), (2, .ref v)]) hx hb dJ6_getChars_ba4f3_73 hl (k := 2) rfl dec1 (by decide) rfl (fun ls hl => ?_)
      refine lv_iload hx hb dJ6_getChars_ba4f3_76 (lv_at hl 0 rfl) ?_
      refine va_gets hx hb hZ1 hS hown (hts (.fieldLink RJ6 83 "java/lang/Integer" "DigitOnes" "[B") (List.mem_of_getElem? (i := 1) rfl)) (fun _ h9 => h9) dJ6_getChars_ba4f3_78 ?_
      refine lv_iload_n hx hb dJ6_getChars_ba4f3_81 rfl (lv_at hl 1 rfl) ?_
      refine lv_ineg hx hb dJ6_getChars_ba4f3_82 ?_
      refine s1_is (z := nI (k)) (Int32.neg_neg) ?_
      refine va_tb hx hb hT1 hS (vp_in_nI (n := k) (N := 100) (by omega) (by decide)) (v := .int (nI (48 + k % 10))) (by show Value.int (nI (48 + (nI (k)).toNatClampNeg % 10)) = _; rw [nI_clamp (by omega)]) dJ6_getChars_ba4f3_83 ?_
      refine va_bast hx hb hK hP hD hS 0 2 rfl rfl (vp_in_nI (n := n + 1) (N := m) (by omega) (by omega)) dJ6_getChars_ba4f3_84 (fun H locs hP hD hS => ?_)
      have hP : va_P D vwCl [(v, .inl (y 2, m, .inl (upd (b) (nI (n + 1)).toNatClampNeg (vp_nar .byte (nI (48 + k % 10))))))] H := hP
      have hD : va_D A [(v, .inl (y 2, m, .inl (upd (b) (nI (n + 1)).toNatClampNeg (vp_nar .byte (nI (48 + k % 10))))))] := hD
      have ec : upd (b) (nI (n + 1)).toNatClampNeg (vp_nar .byte (nI (48 + k % 10))) = upd (b) (n + 1) (sb_b (48 + k % 10)) := by rw [nI_clamp (by omega), vp_nar_byte]; rfl
      rw [ec] at hP hD
      have hP : va_P D vwCl [(v, .inl (y 2, m, .inl (upd (b) (n + 1) (sb_b (48 + k % 10)))))] H := hP
      have hD : va_D A [(v, .inl (y 2, m, .inl (upd (b) (n + 1) (sb_b (48 + k % 10)))))] := hD
      refine lv_iload_n hx hb dJ6_getChars_ba4f3_85 rfl (lv_at hl 1 rfl) ?_
      refine lv_bipush (v := -9) hx hb dJ6_getChars_ba4f3_86 (by decide) ?_
      refine lv_icmp_ge (tgt := 104) hx hb dJ6_getChars_ba4f3_88 (by decide) (fun h9 => absurd h9 (sNGE (k := 9) (by omega) (by omega) (by omega))) (fun _ => ?_)
      refine lv_aload_n hx hb dJ6_getChars_ba4f3_91 rfl (lv_at hl 4 rfl) ?_
      refine lv_iinc (v := nI n) (lv' := [(5, .int (nI n)), (0, .int (-(nI k))), (6, .int ((0 : Int32))), (1, .int (nI (n + 2))), (2, .ref v)]) hx hb dJ6_getChars_ba4f3_92 hl (k := 0) rfl dec1 (by decide) rfl (fun ls hl => ?_)
      refine lv_iload hx hb dJ6_getChars_ba4f3_95 (lv_at hl 0 rfl) ?_
      refine va_gets hx hb hZ2 hS hown (hts (.fieldLink RJ6 87 "java/lang/Integer" "DigitTens" "[B") (List.mem_of_getElem? (i := 2) rfl)) (fun _ h9 => h9) dJ6_getChars_ba4f3_97 ?_
      refine lv_iload_n hx hb dJ6_getChars_ba4f3_100 rfl (lv_at hl 1 rfl) ?_
      refine lv_ineg hx hb dJ6_getChars_ba4f3_101 ?_
      refine s1_is (z := nI (k)) (Int32.neg_neg) ?_
      refine va_tb hx hb hT2 hS (vp_in_nI (n := k) (N := 100) (by omega) (by decide)) (v := .int (nI (48 + k / 10))) (by show Value.int (nI (48 + (nI (k)).toNatClampNeg / 10)) = _; rw [nI_clamp (by omega)]) dJ6_getChars_ba4f3_102 ?_
      refine va_bast hx hb hK hP hD hS 0 2 rfl rfl (vp_in_nI (n := n) (N := m) (by omega) (by omega)) dJ6_getChars_ba4f3_103 (fun H locs hP hD hS => ?_)
      have hP : va_P D vwCl [(v, .inl (y 2, m, .inl (upd (upd (b) (n + 1) (sb_b (48 + k % 10))) (nI n).toNatClampNeg (vp_nar .byte (nI (48 + k / 10))))))] H := hP
      have hD : va_D A [(v, .inl (y 2, m, .inl (upd (upd (b) (n + 1) (sb_b (48 + k % 10))) (nI n).toNatClampNeg (vp_nar .byte (nI (48 + k / 10))))))] := hD
      have ec : upd (upd (b) (n + 1) (sb_b (48 + k % 10))) (nI n).toNatClampNeg (vp_nar .byte (nI (48 + k / 10))) = upd (upd (b) (n + 1) (sb_b (48 + k % 10))) (n) (sb_b (48 + k / 10)) := by rw [nI_clamp (by omega), vp_nar_byte]; rfl
      rw [ec] at hP hD
      have hP : va_P D vwCl [(v, .inl (y 2, m, .inl (upd (upd (b) (n + 1) (sb_b (48 + k % 10))) (n) (sb_b (48 + k / 10)))))] H := hP
      have hD : va_D A [(v, .inl (y 2, m, .inl (upd (upd (b) (n + 1) (sb_b (48 + k % 10))) (n) (sb_b (48 + k / 10)))))] := hD
      refine lv_iload hx hb dJ6_getChars_ba4f3_104 (lv_at hl 2 rfl) ?_
      refine lv_if_eq (tgt := 118) hx hb dJ6_getChars_ba4f3_106 (by decide) (fun _ => ?_) (fun h9 => absurd (rfl) h9)
      refine lv_iload hx hb dJ6_getChars_ba4f3_118 (lv_at hl 0 rfl) ?_
      rw [hQ0]
      exact ret_ui (()) (trivial) hx hb hr hlocks hAe hK hP hD hS [0] rfl rfl dJ6_getChars_ba4f3_120
    · skip
      have h2 : k < 1000 := hk
      have ed : sb_dg k = 3 := (if_neg h0).trans ((if_neg h1).trans (if_pos h2))
      rw [ed] at hn
      rw [ed, show gcB b n k = upd (upd (upd b (n + 2) (sb_b (48 + k % 100 % 10))) (n + 1) (sb_b (48 + k % 100 / 10))) n (sb_b (48 + k / 100 % 10)) from (if_neg h0).trans (if_neg h1)]
      refine Met.ofW (cc := cJ6_getChars_ba4f3) (maxL := 7) (ret := (some .int)) (by decide) rfl ?_
      intro p e s mi args below meth c s₁ B hml hv
      obtain ⟨hav, hsz, hP, hK, hD0, hJ⟩ := hv
      have hx := B.exec
      have hb := B.bytes
      have hr := B.returns
      have hts := atoms_spec (ws := wsJ6_getChars_ba4f3) B.pre
      have hown : s.vm.findClass RJ6 = some mi.cls := findClass_of_methodNamed B.named
      have hlocks := B.notSynchronized
      subst hsz
      have hD := hD0.self (sz := s.heap.size)
      obtain ⟨A, hAe⟩ : ∃ A : Nat → Prop, va_A [(v, .inl (y 2, m, .inl b))] s.heap.size = A := ⟨_, rfl⟩
      rw [hAe] at hD
      rw [hAe] at hJ
      have hA : ∀ q, s.heap.size ≤ q → A q := fun q h => by rw [← hAe]; exact Or.inr h
      have hS : va_S A s.heap s.heap [] := va_S.rf
      refine W_q (R1 := (rmx 0 0 0 0)) rfl (fun Q0 hQ0 => ?_)
      refine W_entry hav (Nat.le_of_ble_eq_true rfl) (fun ls hl => ?_)
      have hl : lv_has ls 7 [(0, .int (nI k)), (1, .int (nI (n + 3))), (2, .ref v)] := hl
      obtain ⟨-, -, -, ⟨t1, hZ1, hT1⟩, ⟨t2, hZ2, hT2⟩⟩ := hJ
      refine lv_iload_n hx hb dJ6_getChars_ba4f3_0 rfl (lv_at hl 1 rfl) ?_
      refine lv_istore (lv' := [(5, .int (nI (n + 3))), (0, .int (nI k)), (1, .int (nI (n + 3))), (2, .ref v)]) hx hb dJ6_getChars_ba4f3_1 hl (by decide) rfl (fun ls hl => ?_)
      refine lv_iload_n hx hb dJ6_getChars_ba4f3_3 rfl (lv_at hl 1 rfl) ?_
      refine lv_if_ge (tgt := 11) hx hb dJ6_getChars_ba4f3_4 (by decide) (fun _ => ?_) (fun h9 => absurd (nI_pos2 (by omega)) h9)
      refine lv_iconst (v := 0) hx hb dJ6_getChars_ba4f3_11 (by decide) ?_
      refine lv_istore (lv' := [(6, .int ((0 : Int32))), (5, .int (nI (n + 3))), (0, .int (nI k)), (1, .int (nI (n + 3))), (2, .ref v)]) hx hb dJ6_getChars_ba4f3_12 hl (by decide) rfl (fun ls hl => ?_)
      refine lv_iload hx hb dJ6_getChars_ba4f3_14 (lv_at hl 0 rfl) ?_
      refine lv_if_ne (tgt := 22) hx hb dJ6_getChars_ba4f3_16 (by decide) (fun h9 => absurd (rfl) h9) (fun _ => ?_)
      refine lv_iload_n hx hb dJ6_getChars_ba4f3_19 rfl (lv_at hl 2 rfl) ?_
      refine lv_ineg hx hb dJ6_getChars_ba4f3_20 ?_
      refine lv_istore_n (lv' := [(0, .int (-(nI k))), (6, .int ((0 : Int32))), (5, .int (nI (n + 3))), (1, .int (nI (n + 3))), (2, .ref v)]) hx hb dJ6_getChars_ba4f3_21 rfl hl (by decide) rfl (fun ls hl => ?_)
      refine lv_iload_n hx hb dJ6_getChars_ba4f3_22 rfl (lv_at hl 0 rfl) ?_
      refine lv_bipush (v := -100) hx hb dJ6_getChars_ba4f3_23 (by decide) ?_
      refine lv_icmp_gt (tgt := 72) hx hb dJ6_getChars_ba4f3_25 (by decide) (fun h9 => absurd h9 (sNG (k := 100) (by omega) (by omega) (by omega))) (fun _ => ?_)
      refine lv_iload_n hx hb dJ6_getChars_ba4f3_28 rfl (lv_at hl 0 rfl) ?_
      refine lv_bipush (v := 100) hx hb dJ6_getChars_ba4f3_29 (by decide) ?_
      refine lv_idiv hx hb dJ6_getChars_ba4f3_31 (by decide) ?_
      refine s1_is (z := -(nI (k / 100))) (sb_ndiv (by omega)) ?_
      refine lv_istore_n (lv' := [(3, .int (-(nI (k / 100)))), (0, .int (-(nI k))), (6, .int ((0 : Int32))), (5, .int (nI (n + 3))), (1, .int (nI (n + 3))), (2, .ref v)]) hx hb dJ6_getChars_ba4f3_32 rfl hl (by decide) rfl (fun ls hl => ?_)
      refine lv_iload_n hx hb dJ6_getChars_ba4f3_33 rfl (lv_at hl 0 rfl) ?_
      refine lv_bipush (v := 100) hx hb dJ6_getChars_ba4f3_34 (by decide) ?_
      refine lv_imul hx hb dJ6_getChars_ba4f3_36 ?_
      refine lv_iload_n hx hb dJ6_getChars_ba4f3_37 rfl (lv_at hl 1 rfl) ?_
      refine lv_isub hx hb dJ6_getChars_ba4f3_38 ?_
      refine s1_is (z := nI (k % 100)) (sb_nrem (by omega)) ?_
      refine lv_istore (lv' := [(4, .int (nI (k % 100))), (3, .int (-(nI (k / 100)))), (0, .int (-(nI k))), (6, .int ((0 : Int32))), (5, .int (nI (n + 3))), (1, .int (nI (n + 3))), (2, .ref v)]) hx hb dJ6_getChars_ba4f3_39 hl (by decide) rfl (fun ls hl => ?_)
      refine lv_iload_n hx hb dJ6_getChars_ba4f3_41 rfl (lv_at hl 1 rfl) ?_
      refine lv_istore_n (lv' := [(0, .int (-(nI (k / 100)))), (4, .int (nI (k % 100))), (3, .int (-(nI (k / 100)))), (6, .int ((0 : Int32))), (5, .int (nI (n + 3))), (1, .int (nI (n + 3))), (2, .ref v)]) hx hb dJ6_getChars_ba4f3_42 rfl hl (by decide) rfl (fun ls hl => ?_)
      refine lv_aload_n hx hb dJ6_getChars_ba4f3_43 rfl (lv_at hl 6 rfl) ?_
      refine lv_iinc (v := nI (n + 2)) (lv' := [(5, .int (nI (n + 2))), (0, .int (-(nI (k / 100)))), (4, .int (nI (k % 100))), (3, .int (-(nI (k / 100)))), (6, .int ((0 : Int32))), (1, .int (nI (n + 3))), (2, .ref v)]) hx hb dJ6_getChars_ba4f3_44 hl (k := 4) rfl dec1 (by decide) rfl (fun ls hl => ?_)
      refine lv_iload hx hb dJ6_getChars_ba4f3_47 (lv_at hl 0 rfl) ?_
      refine va_gets hx hb hZ1 hS hown (hts (.fieldLink RJ6 83 "java/lang/Integer" "DigitOnes" "[B") (List.mem_of_getElem? (i := 1) rfl)) (fun _ h9 => h9) dJ6_getChars_ba4f3_49 ?_
      refine lv_iload hx hb dJ6_getChars_ba4f3_52 (lv_at hl 2 rfl) ?_
      refine va_tb hx hb hT1 hS (vp_in_nI (n := k % 100) (N := 100) (by omega) (by decide)) (v := .int (nI (48 + k % 100 % 10))) (by show Value.int (nI (48 + (nI (k % 100)).toNatClampNeg % 10)) = _; rw [nI_clamp (by omega)]) dJ6_getChars_ba4f3_54 ?_
      refine va_bast hx hb hK hP hD hS 0 2 rfl rfl (vp_in_nI (n := n + 2) (N := m) (by omega) (by omega)) dJ6_getChars_ba4f3_55 (fun H locs hP hD hS => ?_)
      have hP : va_P D vwCl [(v, .inl (y 2, m, .inl (upd (b) (nI (n + 2)).toNatClampNeg (vp_nar .byte (nI (48 + k % 100 % 10))))))] H := hP
      have hD : va_D A [(v, .inl (y 2, m, .inl (upd (b) (nI (n + 2)).toNatClampNeg (vp_nar .byte (nI (48 + k % 100 % 10))))))] := hD
      have ec : upd (b) (nI (n + 2)).toNatClampNeg (vp_nar .byte (nI (48 + k % 100 % 10))) = upd (b) (n + 2) (sb_b (48 + k % 100 % 10)) := by rw [nI_clamp (by omega), vp_nar_byte]; rfl
      rw [ec] at hP hD
      have hP : va_P D vwCl [(v, .inl (y 2, m, .inl (upd (b) (n + 2) (sb_b (48 + k % 100 % 10)))))] H := hP
      have hD : va_D A [(v, .inl (y 2, m, .inl (upd (b) (n + 2) (sb_b (48 + k % 100 % 10)))))] := hD
      refine lv_aload_n hx hb dJ6_getChars_ba4f3_56 rfl (lv_at hl 6 rfl) ?_
      refine lv_iinc (v := nI (n + 1)) (lv' := [(5, .int (nI (n + 1))), (0, .int (-(nI (k / 100)))), (4, .int (nI (k % 100))), (3, .int (-(nI (k / 100)))), (6, .int ((0 : Int32))), (1, .int (nI (n + 3))), (2, .ref v)]) hx hb dJ6_getChars_ba4f3_57 hl (k := 0) rfl dec1 (by decide) rfl (fun ls hl => ?_)
      refine lv_iload hx hb dJ6_getChars_ba4f3_60 (lv_at hl 0 rfl) ?_
      refine va_gets hx hb hZ2 hS hown (hts (.fieldLink RJ6 87 "java/lang/Integer" "DigitTens" "[B") (List.mem_of_getElem? (i := 2) rfl)) (fun _ h9 => h9) dJ6_getChars_ba4f3_62 ?_
      refine lv_iload hx hb dJ6_getChars_ba4f3_65 (lv_at hl 2 rfl) ?_
      refine va_tb hx hb hT2 hS (vp_in_nI (n := k % 100) (N := 100) (by omega) (by decide)) (v := .int (nI (48 + k % 100 / 10))) (by show Value.int (nI (48 + (nI (k % 100)).toNatClampNeg / 10)) = _; rw [nI_clamp (by omega)]) dJ6_getChars_ba4f3_67 ?_
      refine va_bast hx hb hK hP hD hS 0 2 rfl rfl (vp_in_nI (n := n + 1) (N := m) (by omega) (by omega)) dJ6_getChars_ba4f3_68 (fun H locs hP hD hS => ?_)
      have hP : va_P D vwCl [(v, .inl (y 2, m, .inl (upd (upd (b) (n + 2) (sb_b (48 + k % 100 % 10))) (nI (n + 1)).toNatClampNeg (vp_nar .byte (nI (48 + k % 100 / 10))))))] H := hP
      have hD : va_D A [(v, .inl (y 2, m, .inl (upd (upd (b) (n + 2) (sb_b (48 + k % 100 % 10))) (nI (n + 1)).toNatClampNeg (vp_nar .byte (nI (48 + k % 100 / 10))))))] := hD
      have ec : upd (upd (b) (n + 2) (sb_b (48 + k % 100 % 10))) (nI (n + 1)).toNatClampNeg (vp_nar .byte (nI (48 + k % 100 / 10))) = upd (upd (b) (n + 2) (sb_b (48 + k % 100 % 10))) (n + 1) (sb_b (48 + k % 100 / 10)) := by rw [nI_clamp (by omega), vp_nar_byte]; rfl
      rw [ec] at hP hD
      have hP : va_P D vwCl [(v, .inl (y 2, m, .inl (upd (upd (b) (n + 2) (sb_b (48 + k % 100 % 10))) (n + 1) (sb_b (48 + k % 100 / 10)))))] H := hP
      have hD : va_D A [(v, .inl (y 2, m, .inl (upd (upd (b) (n + 2) (sb_b (48 + k % 100 % 10))) (n + 1) (sb_b (48 + k % 100 / 10)))))] := hD
      refine lv_goto (tgt := 22) hx hb dJ6_getChars_ba4f3_69 (by decide) ?_
      refine lv_iload_n hx hb dJ6_getChars_ba4f3_22 rfl (lv_at hl 1 rfl) ?_
      refine lv_bipush (v := -100) hx hb dJ6_getChars_ba4f3_23 (by decide) ?_
      refine lv_icmp_gt (tgt := 72) hx hb dJ6_getChars_ba4f3_25 (by decide) (fun _ => ?_) (fun h9 => absurd (sG (k := 100) (by omega) (by omega) (by omega)) h9)
      refine lv_aload_n hx hb dJ6_getChars_ba4f3_72 rfl (lv_at hl 6 rfl) ?_
      refine lv_iinc (v := nI n) (lv' := [(5, .int (nI n)), (0, .int (-(nI (k / 100)))), (4, .int (nI (k % 100))), (3, .int (-(nI (k / 100)))), (6, .int ((0 : Int32))), (1, .int (nI (n + 3))), (2, .ref v)]) hx hb dJ6_getChars_ba4f3_73 hl (k := 0) rfl dec1 (by decide) rfl (fun ls hl => ?_)
      refine lv_iload hx hb dJ6_getChars_ba4f3_76 (lv_at hl 0 rfl) ?_
      refine va_gets hx hb hZ1 hS hown (hts (.fieldLink RJ6 83 "java/lang/Integer" "DigitOnes" "[B") (List.mem_of_getElem? (i := 1) rfl)) (fun _ h9 => h9) dJ6_getChars_ba4f3_78 ?_
      refine lv_iload_n hx hb dJ6_getChars_ba4f3_81 rfl (lv_at hl 1 rfl) ?_
      refine lv_ineg hx hb dJ6_getChars_ba4f3_82 ?_
      refine s1_is (z := nI (k / 100)) (Int32.neg_neg) ?_
      refine va_tb hx hb hT1 hS (vp_in_nI (n := k / 100) (N := 100) (by omega) (by decide)) (v := .int (nI (48 + k / 100 % 10))) (by show Value.int (nI (48 + (nI (k / 100)).toNatClampNeg % 10)) = _; rw [nI_clamp (by omega)]) dJ6_getChars_ba4f3_83 ?_
      refine va_bast hx hb hK hP hD hS 0 2 rfl rfl (vp_in_nI (n := n) (N := m) (by omega) (by omega)) dJ6_getChars_ba4f3_84 (fun H locs hP hD hS => ?_)
      have hP : va_P D vwCl [(v, .inl (y 2, m, .inl (upd (upd (upd (b) (n + 2) (sb_b (48 + k % 100 % 10))) (n + 1) (sb_b (48 + k % 100 / 10))) (nI n).toNatClampNeg (vp_nar .byte (nI (48 + k / 100 % 10))))))] H := hP
      have hD : va_D A [(v, .inl (y 2, m, .inl (upd (upd (upd (b) (n + 2) (sb_b (48 + k % 100 % 10))) (n + 1) (sb_b (48 + k % 100 / 10))) (nI n).toNatClampNeg (vp_nar .byte (nI (48 + k / 100 % 10))))))] := hD
      have ec : upd (upd (upd (b) (n + 2) (sb_b (48 + k % 100 % 10))) (n + 1) (sb_b (48 + k % 100 / 10))) (nI n).toNatClampNeg (vp_nar .byte (nI (48 + k / 100 % 10))) = upd (upd (upd (b) (n + 2) (sb_b (48 + k % 100 % 10))) (n + 1) (sb_b (48 + k % 100 / 10))) (n) (sb_b (48 + k / 100 % 10)) := by rw [nI_clamp (by omega), vp_nar_byte]; rfl
      rw [ec] at hP hD
      have hP : va_P D vwCl [(v, .inl (y 2, m, .inl (upd (upd (upd (b) (n + 2) (sb_b (48 + k % 100 % 10))) (n + 1) (sb_b (48 + k % 100 / 10))) (n) (sb_b (48 + k / 100 % 10)))))] H := hP
      have hD : va_D A [(v, .inl (y 2, m, .inl (upd (upd (upd (b) (n + 2) (sb_b (48 + k % 100 % 10))) (n + 1) (sb_b (48 + k % 100 / 10))) (n) (sb_b (48 + k / 100 % 10)))))] := hD
      refine lv_iload_n hx hb dJ6_getChars_ba4f3_85 rfl (lv_at hl 1 rfl) ?_
      refine lv_bipush (v := -9) hx hb dJ6_getChars_ba4f3_86 (by decide) ?_
      refine lv_icmp_ge (tgt := 104) hx hb dJ6_getChars_ba4f3_88 (by decide) (fun _ => ?_) (fun h9 => absurd (sGE (k := 9) (by omega) (by omega) (by omega)) h9)
      refine lv_iload hx hb dJ6_getChars_ba4f3_104 (lv_at hl 4 rfl) ?_
      refine lv_if_eq (tgt := 118) hx hb dJ6_getChars_ba4f3_106 (by decide) (fun _ => ?_) (fun h9 => absurd (rfl) h9)
      refine lv_iload hx hb dJ6_getChars_ba4f3_118 (lv_at hl 0 rfl) ?_
      rw [hQ0]
      exact ret_ui (()) (trivial) hx hb hr hlocks hAe hK hP hD hS [0] rfl rfl dJ6_getChars_ba4f3_120
theorem iJ5_append_3fe6f_J4 : ∀ w ∈ u_ws RJ4 TJ4 4, w ∈ wsJ5_append_3fe6f := fun w h => List.mem_cons_of_mem _ (List.mem_append_right _ h)
set_option maxHeartbeats 4000000 in
set_option maxRecDepth 100000 in
theorem c_J5_append_3fe6f (l : Launch) (D : va_G) (y : Nat → ClassId) (sz : Nat) (a v n m k : Nat) (ml : Int32) (t : Nat → Nat) (b : Nat → Int32) (hm : m ≤ 65536) (hn : n ≤ 10000) (hnm : n ≤ m) (hL : sb_Lat t n b) (hfit : sb_Fit b) (hk : k < 256) : Met l yJ5_append_3fe6f wsJ5_append_3fe6f (rmx 6 200 (gC (n + 1) m) (gS (n + 1) m)) (jrP D y [(a, .inr (1, [.ref v, .int 0, .int ml, .int (nI n)])), (v, .inl (y 2, m, .inl (b)))] sz [.ref a, .int (nI k)]) (wQur (S := Nat × (Nat → Int32)) D y (fun _ => a) (fun u => sb_Lat (sb_cat t n (fun _ => k)) (n + 1) u.2 ∧ sb_Fit u.2) (fun u => [(a, .inr (1, [.ref u.1, .int 0, .int ml, .int (nI (n + 1))])), (u.1, .inl (y 2, sb_cap (n + 1) m, .inl u.2))]) [(a, .inr (1, [.ref v, .int 0, .int ml, .int (nI n)])), (v, .inl (y 2, m, .inl (b)))] sz) (gC (n + 1) m) (gS (n + 1) m) (va_A [(a, .inr (1, [.ref v, .int 0, .int ml, .int (nI n)])), (v, .inl (y 2, m, .inl (b)))] sz) := by
  refine Met.ofW (cc := cJ5_append_3fe6f) (maxL := 2) (ret := (some (.object "java/lang/AbstractStringBuilder"))) (by decide) rfl ?_
  intro p e s mi args below meth c s₁ B hml hv
  obtain ⟨hav, hsz, hP, hK, hD0, hJ⟩ := hv
  have hx := B.exec
  have hb := B.bytes
  have hr := B.returns
  have hts := atoms_spec (ws := wsJ5_append_3fe6f) B.pre
  have hown : s.vm.findClass RJ5 = some mi.cls := findClass_of_methodNamed B.named
  have hlocks := B.notSynchronized
  subst hsz
  have hD := hD0.self (sz := s.heap.size)
  obtain ⟨A, hAe⟩ : ∃ A : Nat → Prop, va_A [(a, .inr (1, [.ref v, .int 0, .int ml, .int (nI n)])), (v, .inl (y 2, m, .inl (b)))] s.heap.size = A := ⟨_, rfl⟩
  rw [hAe] at hD
  rw [hAe] at hJ
  have hA : ∀ q, s.heap.size ≤ q → A q := fun q h => by rw [← hAe]; exact Or.inr h
  have hS : va_S A s.heap s.heap [] := va_S.rf
  refine W_q (R1 := (rmx 6 200 (gC (n + 1) m) (gS (n + 1) m))) rfl (fun Q0 hQ0 => ?_)
  refine W_entry hav (Nat.le_of_ble_eq_true rfl) (fun ls hl => ?_)
  have hl : lv_has ls 2 [(0, .ref a), (1, .int (nI k))] := hl
  have hg := sb_cap_ge (n + 1) m
  have hcl := sb_capB (q := n + 1) hm (by omega)
  refine lv_aload_n hx hb dJ5_append_3fe6f_0 rfl (lv_at hl 0 rfl) ?_
  refine lv_aload_n hx hb dJ5_append_3fe6f_1 rfl (lv_at hl 0 rfl) ?_
  refine va_get (D := D) (ci := 1) (v := .int (nI n)) (C := RJ4) (T := TJ4) (N := 4) hx hb hts iJ5_append_3fe6f_J4 hown hK hP 0 rfl rfl 3 (by decide) (hts (.fieldLink RJ5 79 "java/lang/AbstractStringBuilder" "count" "I") (List.mem_of_getElem? (i := 1) rfl)) (fun _ h9 => h9) rfl dJ5_append_3fe6f_2 ?_
  refine lv_iconst (v := 1) hx hb dJ5_append_3fe6f_5 (by decide) ?_
  refine lv_iadd hx hb dJ5_append_3fe6f_6 ?_
  refine s1_is (z := nI (n + 1)) (nI_1 n) ?_
  refine cj_Uv (As := [.int (nI (n + 1))]) (rest := []) (wr := []) ⟨hx, hb, hml, hown, hts⟩ (c_J5_ensureCapacityInternal_d00df l D y s.heap.size a v n m (n + 1) ml b hm (by omega) hfit) (va_cwU 1 hts gJ5_append_3fe6f_J5_ensureCapacityInternal_d00df_u100J4 rfl rfl rfl rfl (by decide +kernel) ⟨(Nat.le_of_ble_eq_true rfl), (Nat.le_of_ble_eq_true rfl)⟩) hK hP hD hS hA hJ [0, 1] [] rfl rfl rfl rfl (by decide) rfl rfl rfl hl.1 rfl (Nat.le_of_ble_eq_true rfl) dJ5_append_3fe6f_7 ⟨(Nat.le_of_eq (Nat.zero_add _)), (Nat.le_of_eq (Nat.zero_add _))⟩ (fun u H locs hu hP hD hS => ?_)
  have hP : va_P D vwCl [(a, .inr (1, [.ref u.1, .int 0, .int ml, .int (nI n)])), (u.1, .inl (y 2, sb_cap (n + 1) m, .inl u.2))] H := hP
  have hD : va_D A [(a, .inr (1, [.ref u.1, .int 0, .int ml, .int (nI n)])), (u.1, .inl (y 2, sb_cap (n + 1) m, .inl u.2))] := hD
  refine lv_aload_n hx hb dJ5_append_3fe6f_10 rfl (lv_at hl 0 rfl) ?_
  refine cj_Ui (As := []) (rest := []) (wr := [(u.1, .inl (y 2, sb_cap (n + 1) m, .inl u.2))]) ⟨hx, hb, hml, hown, hts⟩ (c_J5_isLatin1_aae02 l D y H.size a u.1 n ml) (va_cwU 0 hts gJ5_append_3fe6f_J5_isLatin1_aae02_u83J4 rfl rfl rfl rfl (by decide +kernel) ⟨(Nat.le_of_ble_eq_true rfl), (Nat.le_of_ble_eq_true rfl)⟩) hK hP hD hS hA hJ [0] [1] rfl rfl rfl rfl (by decide) rfl rfl rfl hl.1 rfl (Nat.le_of_ble_eq_true rfl) dJ5_append_3fe6f_11 ⟨z1 _, z1 _⟩ (fun u1 H locs hu1 hP hD hS => ?_)
  have hP : va_P D vwCl [(u.1, .inl (y 2, sb_cap (n + 1) m, .inl u.2)), (a, .inr (1, [.ref u.1, .int 0, .int ml, .int (nI n)]))] H := hP
  have hD : va_D A [(u.1, .inl (y 2, sb_cap (n + 1) m, .inl u.2)), (a, .inr (1, [.ref u.1, .int 0, .int ml, .int (nI n)]))] := hD
  refine lv_if_eq (tgt := 45) hx hb dJ5_append_3fe6f_14 (by decide) (fun h9 => absurd h9 (by decide)) (fun _ => ?_)
  refine lv_iload_n hx hb dJ5_append_3fe6f_17 rfl (lv_at hl 1 rfl) ?_
  refine cr_S (As := [.int (nI k)]) (rest := []) ⟨hx, hb, hml, hown, hts⟩ (c_J1_canEncode_fc78d l D y k hk) (va_cwS 1 hts gJ5_append_3fe6f_J1_canEncode_fc78d rfl rfl rfl (by decide +kernel) ⟨(Nat.le_of_ble_eq_true rfl), (Nat.le_of_ble_eq_true rfl)⟩) hK hP [] rfl rfl hl.1 rfl (Nat.le_of_ble_eq_true rfl) dJ5_append_3fe6f_18 ⟨z2 _, z2 _⟩ ?_
  refine lv_if_eq (tgt := 45) hx hb dJ5_append_3fe6f_21 (by decide) (fun h9 => absurd h9 (by decide)) (fun _ => ?_)
  refine lv_aload_n hx hb dJ5_append_3fe6f_24 rfl (lv_at hl 0 rfl) ?_
  refine va_get (D := D) (ci := 1) (v := .ref u.1) (C := RJ4) (T := TJ4) (N := 4) hx hb hts iJ5_append_3fe6f_J4 hown hK hP 1 rfl rfl 0 (by decide) (hts (.fieldLink RJ5 15 "java/lang/AbstractStringBuilder" "value" "[B") (List.mem_of_getElem? (i := 2) rfl)) (fun _ h9 => h9) rfl dJ5_append_3fe6f_25 ?_
  refine lv_aload_n hx hb dJ5_append_3fe6f_28 rfl (lv_at hl 0 rfl) ?_
  refine lv_dup hx hb dJ5_append_3fe6f_29 rfl ?_
  refine va_get (D := D) (ci := 1) (v := .int (nI n)) (C := RJ4) (T := TJ4) (N := 4) hx hb hts iJ5_append_3fe6f_J4 hown hK hP 1 rfl rfl 3 (by decide) (hts (.fieldLink RJ5 79 "java/lang/AbstractStringBuilder" "count" "I") (List.mem_of_getElem? (i := 1) rfl)) (fun _ h9 => h9) rfl dJ5_append_3fe6f_30 ?_
  refine lv_dup_x1 hx hb dJ5_append_3fe6f_33 rfl rfl ?_
  refine lv_iconst (v := 1) hx hb dJ5_append_3fe6f_34 (by decide) ?_
  refine lv_iadd hx hb dJ5_append_3fe6f_35 ?_
  refine s1_is (z := nI (n + 1)) (nI_1 n) ?_
  refine va_put (D := D) (ci := 1) (v := .int (nI (n + 1))) (ty := .int) (C := RJ4) (T := TJ4) (N := 4) hx hb hts iJ5_append_3fe6f_J4 tyJ4 tyJ4_ok nmJ4 hown hK hP hD hS 1 rfl rfl 3 (by decide) (hts (.fieldLink RJ5 79 "java/lang/AbstractStringBuilder" "count" "I") (List.mem_of_getElem? (i := 1) rfl)) (fun _ h9 => h9) rfl (by decide +kernel) rfl rfl (Nat.le_of_ble_eq_true rfl) dJ5_append_3fe6f_36 (fun H locs hP hD hS => ?_)
  have hP : va_P D vwCl [(u.1, .inl (y 2, sb_cap (n + 1) m, .inl u.2)), (a, .inr (1, [.ref u.1, .int 0, .int ml, .int (nI (n + 1))]))] H := hP
  have hD : va_D A [(u.1, .inl (y 2, sb_cap (n + 1) m, .inl u.2)), (a, .inr (1, [.ref u.1, .int 0, .int ml, .int (nI (n + 1))]))] := hD
  refine lv_iload_n hx hb dJ5_append_3fe6f_39 rfl (lv_at hl 1 rfl) ?_
  refine lv_i2b hx hb dJ5_append_3fe6f_40 rfl ?_
  refine va_bast hx hb hK hP hD hS 0 2 rfl rfl (vp_in_nI (n := n) (N := sb_cap (n + 1) m) (by omega) (by omega)) dJ5_append_3fe6f_41 (fun H locs hP hD hS => ?_)
  have hP : va_P D vwCl [(u.1, .inl (y 2, sb_cap (n + 1) m, .inl (upd u.2 ((nI n)).toNatClampNeg (vp_nar .byte ((nI k).toInt8.toInt32))))), (a, .inr (1, [.ref u.1, .int 0, .int ml, .int (nI (n + 1))]))] H := hP
  have hD : va_D A [(u.1, .inl (y 2, sb_cap (n + 1) m, .inl (upd u.2 ((nI n)).toNatClampNeg (vp_nar .byte ((nI k).toInt8.toInt32))))), (a, .inr (1, [.ref u.1, .int 0, .int ml, .int (nI (n + 1))]))] := hD
  have ec : upd u.2 ((nI n)).toNatClampNeg (vp_nar .byte ((nI k).toInt8.toInt32)) = upd u.2 n (sb_b k) := by rw [nI_clamp (by omega), pk_vb]; rfl
  rw [ec] at hP hD
  have hP : va_P D vwCl [(u.1, .inl (y 2, sb_cap (n + 1) m, .inl (upd u.2 n (sb_b k)))), (a, .inr (1, [.ref u.1, .int 0, .int ml, .int (nI (n + 1))]))] H := hP
  have hD : va_D A [(u.1, .inl (y 2, sb_cap (n + 1) m, .inl (upd u.2 n (sb_b k)))), (a, .inr (1, [.ref u.1, .int 0, .int ml, .int (nI (n + 1))]))] := hD
  refine lv_goto (tgt := 75) hx hb dJ5_append_3fe6f_42 (by decide) ?_
  refine lv_aload_n hx hb dJ5_append_3fe6f_75 rfl (lv_at hl 0 rfl) ?_
  rw [hQ0]
  refine W.widen (k := (gC (n + 1) m)) (n := (gS (n + 1) m)) (z1 _) (z1 _) ?_
  exact ret_ur ((u.1, upd u.2 n (sb_b k))) (⟨(sb_putC hL hnm hu.1 hk : sb_Lat (sb_cat t n (fun _ => k)) (n + 1) (upd u.2 n (sb_b k))), (sb_fitU hu.2 (sb_fitB k) : sb_Fit (upd u.2 n (sb_b k)))⟩) hx hb hr (Or.inl ⟨_, rfl⟩) hlocks hAe hK hP hD hS [1, 0] rfl rfl dJ5_append_3fe6f_76
theorem iJ5_append_c97b9_J4 : ∀ w ∈ u_ws RJ4 TJ4 4, w ∈ wsJ5_append_c97b9 := fun w h => List.mem_cons_of_mem _ (List.mem_append_right _ h)
set_option maxHeartbeats 4000000 in
set_option maxRecDepth 100000 in
theorem c_J5_append_c97b9 (l : Launch) (D : va_G) (y : Nat → ClassId) (sz : Nat) (a v n m k : Nat) (ml : Int32) (t : Nat → Nat) (b : Nat → Int32) (hm : m ≤ 65536) (hn : n ≤ 10000) (hnm : n ≤ m) (hL : sb_Lat t n b) (hfit : sb_Fit b) (hk : k < 1000) : Met l yJ5_append_c97b9 wsJ5_append_c97b9 (rmx 6 200 (gC (n + sb_dg k) m) (gS (n + sb_dg k) m)) (jrP D y [(a, .inr (1, [.ref v, .int 0, .int ml, .int (nI n)])), (v, .inl (y 2, m, .inl (b)))] sz [.ref a, .int (nI k)]) (wQur (S := Nat × (Nat → Int32)) D y (fun _ => a) (fun u => sb_Lat (sb_cat t n (sb_dec k)) (n + sb_dg k) u.2 ∧ sb_Fit u.2) (fun u => [(a, .inr (1, [.ref u.1, .int 0, .int ml, .int (nI (n + sb_dg k))])), (u.1, .inl (y 2, sb_cap (n + sb_dg k) m, .inl u.2))]) [(a, .inr (1, [.ref v, .int 0, .int ml, .int (nI n)])), (v, .inl (y 2, m, .inl (b)))] sz) (gC (n + sb_dg k) m) (gS (n + sb_dg k) m) (va_A [(a, .inr (1, [.ref v, .int 0, .int ml, .int (nI n)])), (v, .inl (y 2, m, .inl (b)))] sz) := by
  refine Met.ofW (cc := cJ5_append_c97b9) (maxL := 4) (ret := (some (.object "java/lang/AbstractStringBuilder"))) (by decide) rfl ?_
  intro p e s mi args below meth c s₁ B hml hv
  obtain ⟨hav, hsz, hP, hK, hD0, hJ⟩ := hv
  have hx := B.exec
  have hb := B.bytes
  have hr := B.returns
  have hts := atoms_spec (ws := wsJ5_append_c97b9) B.pre
  have hown : s.vm.findClass RJ5 = some mi.cls := findClass_of_methodNamed B.named
  have hlocks := B.notSynchronized
  subst hsz
  have hD := hD0.self (sz := s.heap.size)
  obtain ⟨A, hAe⟩ : ∃ A : Nat → Prop, va_A [(a, .inr (1, [.ref v, .int 0, .int ml, .int (nI n)])), (v, .inl (y 2, m, .inl (b)))] s.heap.size = A := ⟨_, rfl⟩
  rw [hAe] at hD
  rw [hAe] at hJ
  have hA : ∀ q, s.heap.size ≤ q → A q := fun q h => by rw [← hAe]; exact Or.inr h
  have hS : va_S A s.heap s.heap [] := va_S.rf
  refine W_q (R1 := (rmx 6 200 (gC (n + sb_dg k) m) (gS (n + sb_dg k) m))) rfl (fun Q0 hQ0 => ?_)
  refine W_entry hav (Nat.le_of_ble_eq_true rfl) (fun ls hl => ?_)
  have hl : lv_has ls 4 [(0, .ref a), (1, .int (nI k))] := hl
  have hg := sb_cap_ge (n + sb_dg k) m
  have hdg := sb_dg_in k
  have hcl := sb_capB (q := n + sb_dg k) hm (by omega)
  refine lv_aload_n hx hb dJ5_append_c97b9_0 rfl (lv_at hl 0 rfl) ?_
  refine va_get (D := D) (ci := 1) (v := .int (nI n)) (C := RJ4) (T := TJ4) (N := 4) hx hb hts iJ5_append_c97b9_J4 hown hK hP 0 rfl rfl 3 (by decide) (hts (.fieldLink RJ5 79 "java/lang/AbstractStringBuilder" "count" "I") (List.mem_of_getElem? (i := 1) rfl)) (fun _ h9 => h9) rfl dJ5_append_c97b9_1 ?_
  refine lv_istore_n (lv' := [(2, .int ((nI n))), (0, .ref a), (1, .int (nI k))]) hx hb dJ5_append_c97b9_4 rfl hl (by decide) rfl (fun ls hl => ?_)
  refine lv_iload_n hx hb dJ5_append_c97b9_5 rfl (lv_at hl 0 rfl) ?_
  refine lv_iload_n hx hb dJ5_append_c97b9_6 rfl (lv_at hl 2 rfl) ?_
  refine cr_S (As := [.int (nI k)]) (rest := [.int ((nI n))]) ⟨hx, hb, hml, hown, hts⟩ (c_J6_stringSize_0f7a4 l D y k hk) (va_cwS 1 hts gJ5_append_c97b9_J6_stringSize_0f7a4 rfl rfl rfl (by decide +kernel) ⟨(Nat.le_of_ble_eq_true rfl), (Nat.le_of_ble_eq_true rfl)⟩) hK hP [] rfl rfl hl.1 rfl (Nat.le_of_ble_eq_true rfl) dJ5_append_c97b9_7 ⟨(Nat.le_of_ble_eq_true rfl), (Nat.le_of_ble_eq_true rfl)⟩ ?_
  refine lv_iadd hx hb dJ5_append_c97b9_10 ?_
  refine s1_is (z := nI (n + sb_dg k)) (nI_add n (sb_dg k)) ?_
  refine lv_istore_n (lv' := [(3, .int (nI (n + sb_dg k))), (2, .int ((nI n))), (0, .ref a), (1, .int (nI k))]) hx hb dJ5_append_c97b9_11 rfl hl (by decide) rfl (fun ls hl => ?_)
  refine lv_aload_n hx hb dJ5_append_c97b9_12 rfl (lv_at hl 2 rfl) ?_
  refine lv_iload_n hx hb dJ5_append_c97b9_13 rfl (lv_at hl 0 rfl) ?_
  refine cj_Uv (As := [.int (nI (n + sb_dg k))]) (rest := []) (wr := []) ⟨hx, hb, hml, hown, hts⟩ (c_J5_ensureCapacityInternal_d00df l D y s.heap.size a v n m (n + sb_dg k) ml b hm (by omega) hfit) (va_cwU 1 hts gJ5_append_c97b9_J5_ensureCapacityInternal_d00df_u100J4 rfl rfl rfl rfl (by decide +kernel) ⟨(Nat.le_of_ble_eq_true rfl), (Nat.le_of_ble_eq_true rfl)⟩) hK hP hD hS hA hJ [0, 1] [] rfl rfl rfl rfl (by decide) rfl rfl rfl hl.1 rfl (Nat.le_of_ble_eq_true rfl) dJ5_append_c97b9_14 ⟨(Nat.le_of_eq (Nat.zero_add _)), (Nat.le_of_eq (Nat.zero_add _))⟩ (fun u H locs hu hP hD hS => ?_)
  have hP : va_P D vwCl [(a, .inr (1, [.ref u.1, .int 0, .int ml, .int (nI n)])), (u.1, .inl (y 2, sb_cap (n + sb_dg k) m, .inl u.2))] H := hP
  have hD : va_D A [(a, .inr (1, [.ref u.1, .int 0, .int ml, .int (nI n)])), (u.1, .inl (y 2, sb_cap (n + sb_dg k) m, .inl u.2))] := hD
  refine lv_aload_n hx hb dJ5_append_c97b9_17 rfl (lv_at hl 2 rfl) ?_
  refine cj_Ui (As := []) (rest := []) (wr := [(u.1, .inl (y 2, sb_cap (n + sb_dg k) m, .inl u.2))]) ⟨hx, hb, hml, hown, hts⟩ (c_J5_isLatin1_aae02 l D y H.size a u.1 n ml) (va_cwU 0 hts gJ5_append_c97b9_J5_isLatin1_aae02_u83J4 rfl rfl rfl rfl (by decide +kernel) ⟨(Nat.le_of_ble_eq_true rfl), (Nat.le_of_ble_eq_true rfl)⟩) hK hP hD hS hA hJ [0] [1] rfl rfl rfl rfl (by decide) rfl rfl rfl hl.1 rfl (Nat.le_of_ble_eq_true rfl) dJ5_append_c97b9_18 ⟨z1 _, z1 _⟩ (fun u1 H locs hu1 hP hD hS => ?_)
  have hP : va_P D vwCl [(u.1, .inl (y 2, sb_cap (n + sb_dg k) m, .inl u.2)), (a, .inr (1, [.ref u.1, .int 0, .int ml, .int (nI n)]))] H := hP
  have hD : va_D A [(u.1, .inl (y 2, sb_cap (n + sb_dg k) m, .inl u.2)), (a, .inr (1, [.ref u.1, .int 0, .int ml, .int (nI n)]))] := hD
  refine lv_if_eq (tgt := 37) hx hb dJ5_append_c97b9_21 (by decide) (fun h9 => absurd h9 (by decide)) (fun _ => ?_)
  refine lv_iload_n hx hb dJ5_append_c97b9_24 rfl (lv_at hl 3 rfl) ?_
  refine lv_iload_n hx hb dJ5_append_c97b9_25 rfl (lv_at hl 0 rfl) ?_
  refine lv_aload_n hx hb dJ5_append_c97b9_26 rfl (lv_at hl 2 rfl) ?_
  refine va_get (D := D) (ci := 1) (v := .ref u.1) (C := RJ4) (T := TJ4) (N := 4) hx hb hts iJ5_append_c97b9_J4 hown hK hP 1 rfl rfl 0 (by decide) (hts (.fieldLink RJ5 15 "java/lang/AbstractStringBuilder" "value" "[B") (List.mem_of_getElem? (i := 2) rfl)) (fun _ h9 => h9) rfl dJ5_append_c97b9_27 ?_
  refine cj_Si (As := [.int (nI k), .int (nI (n + sb_dg k)), .ref u.1]) (rest := []) (wr := [(a, .inr (1, [.ref u.1, .int 0, .int ml, .int (nI n)]))]) ⟨hx, hb, hml, hown, hts⟩ (c_J6_getChars_ba4f3 l D y H.size u.1 (sb_cap (n + sb_dg k) m) n k u.2 hk hg (by omega)) (va_cwS 3 hts gJ5_append_c97b9_J6_getChars_ba4f3 rfl rfl rfl (by decide +kernel) ⟨(Nat.le_of_ble_eq_true rfl), (Nat.le_of_ble_eq_true rfl)⟩) hK hP hD hS hA hJ [0] [1] rfl rfl rfl rfl (by decide) rfl hl.1 rfl (Nat.le_of_ble_eq_true rfl) dJ5_append_c97b9_30 ⟨z2 _, z2 _⟩ (fun u2 H locs hu2 hP hD hS => ?_)
  have hP : va_P D vwCl [(a, .inr (1, [.ref u.1, .int 0, .int ml, .int (nI n)])), (u.1, .inl (y 2, sb_cap (n + sb_dg k) m, .inl (gcB u.2 n k)))] H := hP
  have hD : va_D A [(a, .inr (1, [.ref u.1, .int 0, .int ml, .int (nI n)])), (u.1, .inl (y 2, sb_cap (n + sb_dg k) m, .inl (gcB u.2 n k)))] := hD
  refine lv_pop hx hb dJ5_append_c97b9_33 rfl ?_
  refine lv_goto (tgt := 48) hx hb dJ5_append_c97b9_34 (by decide) ?_
  refine lv_aload_n hx hb dJ5_append_c97b9_48 rfl (lv_at hl 2 rfl) ?_
  refine lv_iload_n hx hb dJ5_append_c97b9_49 rfl (lv_at hl 0 rfl) ?_
  refine va_put (D := D) (ci := 1) (v := .int (nI (n + sb_dg k))) (ty := .int) (C := RJ4) (T := TJ4) (N := 4) hx hb hts iJ5_append_c97b9_J4 tyJ4 tyJ4_ok nmJ4 hown hK hP hD hS 0 rfl rfl 3 (by decide) (hts (.fieldLink RJ5 79 "java/lang/AbstractStringBuilder" "count" "I") (List.mem_of_getElem? (i := 1) rfl)) (fun _ h9 => h9) rfl (by decide +kernel) rfl rfl (Nat.le_of_ble_eq_true rfl) dJ5_append_c97b9_50 (fun H locs hP hD hS => ?_)
  have hP : va_P D vwCl [(a, .inr (1, [.ref u.1, .int 0, .int ml, .int (nI (n + sb_dg k))])), (u.1, .inl (y 2, sb_cap (n + sb_dg k) m, .inl (gcB u.2 n k)))] H := hP
  have hD : va_D A [(a, .inr (1, [.ref u.1, .int 0, .int ml, .int (nI (n + sb_dg k))])), (u.1, .inl (y 2, sb_cap (n + sb_dg k) m, .inl (gcB u.2 n k)))] := hD
  refine lv_aload_n hx hb dJ5_append_c97b9_53 rfl (lv_at hl 2 rfl) ?_
  rw [hQ0]
  refine W.widen (k := (gC (n + sb_dg k) m)) (n := (gS (n + sb_dg k) m)) (z2 _) (z2 _) ?_
  exact ret_ur ((u.1, gcB u.2 n k)) (⟨(gc_Lat hL hnm hu.1 hk : sb_Lat (sb_cat t n (sb_dec k)) (n + sb_dg k) (gcB u.2 n k)), (gc_Fit hu.2 : sb_Fit (gcB u.2 n k))⟩) hx hb hr (Or.inl ⟨_, rfl⟩) hlocks hAe hK hP hD hS [0, 1] rfl rfl dJ5_append_c97b9_54
set_option maxHeartbeats 4000000 in
set_option maxRecDepth 100000 in
theorem c_J4_append_cf468 (l : Launch) (D : va_G) (y : Nat → ClassId) (sz : Nat) (a v n m k : Nat) (ml : Int32) (t : Nat → Nat) (b : Nat → Int32) (hm : m ≤ 65536) (hn : n ≤ 10000) (hnm : n ≤ m) (hL : sb_Lat t n b) (hfit : sb_Fit b) (hk : k < 256) : Met l yJ4_append_cf468 wsJ4_append_cf468 (rmx 7 240 (gC (n + 1) m) (gS (n + 1) m)) (jrP D y [(a, .inr (1, [.ref v, .int 0, .int ml, .int (nI n)])), (v, .inl (y 2, m, .inl (b)))] sz [.ref a, .int (nI k)]) (wQur (S := Nat × (Nat → Int32)) D y (fun _ => a) (fun u => sb_Lat (sb_cat t n (fun _ => k)) (n + 1) u.2 ∧ sb_Fit u.2) (fun u => [(a, .inr (1, [.ref u.1, .int 0, .int ml, .int (nI (n + 1))])), (u.1, .inl (y 2, sb_cap (n + 1) m, .inl u.2))]) [(a, .inr (1, [.ref v, .int 0, .int ml, .int (nI n)])), (v, .inl (y 2, m, .inl (b)))] sz) (gC (n + 1) m) (gS (n + 1) m) (va_A [(a, .inr (1, [.ref v, .int 0, .int ml, .int (nI n)])), (v, .inl (y 2, m, .inl (b)))] sz) := by
  refine Met.ofW (cc := cJ4_append_cf468) (maxL := 2) (ret := (some (.object "java/lang/StringBuilder"))) (by decide) rfl ?_
  intro p e s mi args below meth c s₁ B hml hv
  obtain ⟨hav, hsz, hP, hK, hD0, hJ⟩ := hv
  have hx := B.exec
  have hb := B.bytes
  have hr := B.returns
  have hts := atoms_spec (ws := wsJ4_append_cf468) B.pre
  have hown : s.vm.findClass RJ4 = some mi.cls := findClass_of_methodNamed B.named
  have hlocks := B.notSynchronized
  subst hsz
  have hD := hD0.self (sz := s.heap.size)
  obtain ⟨A, hAe⟩ : ∃ A : Nat → Prop, va_A [(a, .inr (1, [.ref v, .int 0, .int ml, .int (nI n)])), (v, .inl (y 2, m, .inl (b)))] s.heap.size = A := ⟨_, rfl⟩
  rw [hAe] at hD
  rw [hAe] at hJ
  have hA : ∀ q, s.heap.size ≤ q → A q := fun q h => by rw [← hAe]; exact Or.inr h
  have hS : va_S A s.heap s.heap [] := va_S.rf
  refine W_q (R1 := (rmx 7 240 (gC (n + 1) m) (gS (n + 1) m))) rfl (fun Q0 hQ0 => ?_)
  refine W_entry hav (Nat.le_of_ble_eq_true rfl) (fun ls hl => ?_)
  have hl : lv_has ls 2 [(0, .ref a), (1, .int (nI k))] := hl
  refine lv_aload_n hx hb dJ4_append_cf468_0 rfl (lv_at hl 0 rfl) ?_
  refine lv_iload_n hx hb dJ4_append_cf468_1 rfl (lv_at hl 1 rfl) ?_
  refine cj_Wr (As := [.int (nI k)]) (rest := []) (wr := []) ⟨hx, hb, hml, hown, hts⟩ (c_J5_append_3fe6f l D y s.heap.size a v n m k ml t b hm hn hnm hL hfit hk) (va_cwSU 1 hts gJ4_append_cf468_J5_append_3fe6f_s50 rfl rfl rfl (by decide +kernel) ⟨(Nat.le_of_ble_eq_true rfl), (Nat.le_of_ble_eq_true rfl)⟩) hK hP hD hS hA hJ [0, 1] [] rfl rfl rfl rfl (by decide) rfl rfl rfl hl.1 rfl (Nat.le_of_ble_eq_true rfl) dJ4_append_cf468_2 ⟨(Nat.le_of_eq (Nat.zero_add _)), (Nat.le_of_eq (Nat.zero_add _))⟩ (fun u H locs hu hP hD hS => ?_)
  have hP : va_P D vwCl [(a, .inr (1, [.ref u.1, .int 0, .int ml, .int (nI (n + 1))])), (u.1, .inl (y 2, sb_cap (n + 1) m, .inl u.2))] H := hP
  have hD : va_D A [(a, .inr (1, [.ref u.1, .int 0, .int ml, .int (nI (n + 1))])), (u.1, .inl (y 2, sb_cap (n + 1) m, .inl u.2))] := hD
  refine lv_pop hx hb dJ4_append_cf468_5 rfl ?_
  refine lv_aload_n hx hb dJ4_append_cf468_6 rfl (lv_at hl 0 rfl) ?_
  rw [hQ0]
  refine W.widen (k := (gC (n + 1) m)) (n := (gS (n + 1) m)) (Nat.le_of_eq (Nat.zero_add _)) (Nat.le_of_eq (Nat.zero_add _)) ?_
  exact ret_ur (u) (hu) hx hb hr (Or.inl ⟨_, rfl⟩) hlocks hAe hK hP hD hS [0, 1] rfl rfl dJ4_append_cf468_7
set_option maxHeartbeats 4000000 in
set_option maxRecDepth 100000 in
theorem c_J4_append_bf812 (l : Launch) (D : va_G) (y : Nat → ClassId) (sz : Nat) (a v n m k : Nat) (ml : Int32) (t : Nat → Nat) (b : Nat → Int32) (hm : m ≤ 65536) (hn : n ≤ 10000) (hnm : n ≤ m) (hL : sb_Lat t n b) (hfit : sb_Fit b) (hk : k < 1000) : Met l yJ4_append_bf812 wsJ4_append_bf812 (rmx 7 240 (gC (n + sb_dg k) m) (gS (n + sb_dg k) m)) (jrP D y [(a, .inr (1, [.ref v, .int 0, .int ml, .int (nI n)])), (v, .inl (y 2, m, .inl (b)))] sz [.ref a, .int (nI k)]) (wQur (S := Nat × (Nat → Int32)) D y (fun _ => a) (fun u => sb_Lat (sb_cat t n (sb_dec k)) (n + sb_dg k) u.2 ∧ sb_Fit u.2) (fun u => [(a, .inr (1, [.ref u.1, .int 0, .int ml, .int (nI (n + sb_dg k))])), (u.1, .inl (y 2, sb_cap (n + sb_dg k) m, .inl u.2))]) [(a, .inr (1, [.ref v, .int 0, .int ml, .int (nI n)])), (v, .inl (y 2, m, .inl (b)))] sz) (gC (n + sb_dg k) m) (gS (n + sb_dg k) m) (va_A [(a, .inr (1, [.ref v, .int 0, .int ml, .int (nI n)])), (v, .inl (y 2, m, .inl (b)))] sz) := by
  refine Met.ofW (cc := cJ4_append_bf812) (maxL := 2) (ret := (some (.object "java/lang/StringBuilder"))) (by decide) rfl ?_
  intro p e s mi args below meth c s₁ B hml hv
  obtain ⟨hav, hsz, hP, hK, hD0, hJ⟩ := hv
  have hx := B.exec
  have hb := B.bytes
  have hr := B.returns
  have hts := atoms_spec (ws := wsJ4_append_bf812) B.pre
  have hown : s.vm.findClass RJ4 = some mi.cls := findClass_of_methodNamed B.named
  have hlocks := B.notSynchronized
  subst hsz
  have hD := hD0.self (sz := s.heap.size)
  obtain ⟨A, hAe⟩ : ∃ A : Nat → Prop, va_A [(a, .inr (1, [.ref v, .int 0, .int ml, .int (nI n)])), (v, .inl (y 2, m, .inl (b)))] s.heap.size = A := ⟨_, rfl⟩
  rw [hAe] at hD
  rw [hAe] at hJ
  have hA : ∀ q, s.heap.size ≤ q → A q := fun q h => by rw [← hAe]; exact Or.inr h
  have hS : va_S A s.heap s.heap [] := va_S.rf
  refine W_q (R1 := (rmx 7 240 (gC (n + sb_dg k) m) (gS (n + sb_dg k) m))) rfl (fun Q0 hQ0 => ?_)
  refine W_entry hav (Nat.le_of_ble_eq_true rfl) (fun ls hl => ?_)
  have hl : lv_has ls 2 [(0, .ref a), (1, .int (nI k))] := hl
  refine lv_aload_n hx hb dJ4_append_bf812_0 rfl (lv_at hl 0 rfl) ?_
  refine lv_iload_n hx hb dJ4_append_bf812_1 rfl (lv_at hl 1 rfl) ?_
  refine cj_Wr (As := [.int (nI k)]) (rest := []) (wr := []) ⟨hx, hb, hml, hown, hts⟩ (c_J5_append_c97b9 l D y s.heap.size a v n m k ml t b hm hn hnm hL hfit hk) (va_cwSU 1 hts gJ4_append_bf812_J5_append_c97b9_s53 rfl rfl rfl (by decide +kernel) ⟨(Nat.le_of_ble_eq_true rfl), (Nat.le_of_ble_eq_true rfl)⟩) hK hP hD hS hA hJ [0, 1] [] rfl rfl rfl rfl (by decide) rfl rfl rfl hl.1 rfl (Nat.le_of_ble_eq_true rfl) dJ4_append_bf812_2 ⟨(Nat.le_of_eq (Nat.zero_add _)), (Nat.le_of_eq (Nat.zero_add _))⟩ (fun u H locs hu hP hD hS => ?_)
  have hP : va_P D vwCl [(a, .inr (1, [.ref u.1, .int 0, .int ml, .int (nI (n + sb_dg k))])), (u.1, .inl (y 2, sb_cap (n + sb_dg k) m, .inl u.2))] H := hP
  have hD : va_D A [(a, .inr (1, [.ref u.1, .int 0, .int ml, .int (nI (n + sb_dg k))])), (u.1, .inl (y 2, sb_cap (n + sb_dg k) m, .inl u.2))] := hD
  refine lv_pop hx hb dJ4_append_bf812_5 rfl ?_
  refine lv_aload_n hx hb dJ4_append_bf812_6 rfl (lv_at hl 0 rfl) ?_
  rw [hQ0]
  refine W.widen (k := (gC (n + sb_dg k) m)) (n := (gS (n + sb_dg k) m)) (Nat.le_of_eq (Nat.zero_add _)) (Nat.le_of_eq (Nat.zero_add _)) ?_
  exact ret_ur (u) (hu) hx hb hr (Or.inl ⟨_, rfl⟩) hlocks hAe hK hP hD hS [0, 1] rfl rfl dJ4_append_bf812_7
theorem iJ5_setLength_d00df_J4 : ∀ w ∈ u_ws RJ4 TJ4 4, w ∈ wsJ5_setLength_d00df := fun w h => List.mem_cons_of_mem _ (List.mem_append_left _ (List.mem_append_right _ h))
set_option maxHeartbeats 4000000 in
set_option maxRecDepth 100000 in
theorem c_J5_setLength_d00df (l : Launch) (D : va_G) (y : Nat → ClassId) (sz : Nat) (a v n m : Nat) (ml : Int32) (b : Nat → Int32) (hm : m ≤ 65536) (hn : n ≤ 10000) (hfit : sb_Fit b) : Met l yJ5_setLength_d00df wsJ5_setLength_d00df (rmx 6 200 (gC 0 m) (gS 0 m)) (jrP D y [(a, .inr (1, [.ref v, .int 0, .int ml, .int (nI n)])), (v, .inl (y 2, m, .inl (b)))] sz [.ref a, .int 0]) (wQuv (S := Nat × (Nat → Int32) × Int32) D y (fun u => sb_Fit u.2.1) (fun u => [(a, .inr (1, [.ref u.1, .int 0, .int u.2.2, .int 0])), (u.1, .inl (y 2, m, .inl u.2.1))]) [(a, .inr (1, [.ref v, .int 0, .int ml, .int (nI n)])), (v, .inl (y 2, m, .inl (b)))] sz) (gC 0 m) (gS 0 m) (va_A [(a, .inr (1, [.ref v, .int 0, .int ml, .int (nI n)])), (v, .inl (y 2, m, .inl (b)))] sz) := by
  by_cases h : n = 0
  · refine Met.ofW (cc := cJ5_setLength_d00df) (maxL := 2) (ret := none) (by decide) rfl ?_
    intro p e s mi args below meth c s₁ B hml hv
    obtain ⟨hav, hsz, hP, hK, hD0, hJ⟩ := hv
    have hx := B.exec
    have hb := B.bytes
    have hr := B.returns
    have hts := atoms_spec (ws := wsJ5_setLength_d00df) B.pre
    have hown : s.vm.findClass RJ5 = some mi.cls := findClass_of_methodNamed B.named
    have hlocks := B.notSynchronized
    subst hsz
    have hD := hD0.self (sz := s.heap.size)
    obtain ⟨A, hAe⟩ : ∃ A : Nat → Prop, va_A [(a, .inr (1, [.ref v, .int 0, .int ml, .int (nI n)])), (v, .inl (y 2, m, .inl (b)))] s.heap.size = A := ⟨_, rfl⟩
    rw [hAe] at hD
    rw [hAe] at hJ
    have hA : ∀ q, s.heap.size ≤ q → A q := fun q h => by rw [← hAe]; exact Or.inr h
    have hS : va_S A s.heap s.heap [] := va_S.rf
    refine W_q (R1 := (rmx 6 200 (gC 0 m) (gS 0 m))) rfl (fun Q0 hQ0 => ?_)
    refine W_entry hav (Nat.le_of_ble_eq_true rfl) (fun ls hl => ?_)
    have hl : lv_has ls 2 [(0, .ref a), (1, .int ((0 : Int32)))] := hl
    refine lv_iload_n hx hb dJ5_setLength_d00df_0 rfl (lv_at hl 1 rfl) ?_
    refine lv_if_ge (tgt := 13) hx hb dJ5_setLength_d00df_1 (by decide) (fun _ => ?_) (fun h9 => absurd (by decide) h9)
    refine lv_aload_n hx hb dJ5_setLength_d00df_13 rfl (lv_at hl 0 rfl) ?_
    refine lv_iload_n hx hb dJ5_setLength_d00df_14 rfl (lv_at hl 1 rfl) ?_
    refine cj_Uv (As := [.int ((0 : Int32))]) (rest := []) (wr := []) ⟨hx, hb, hml, hown, hts⟩ (c_J5_ensureCapacityInternal_d00df l D y s.heap.size a v n m 0 ml b hm (by omega) hfit) (va_cwU 1 hts gJ5_setLength_d00df_J5_ensureCapacityInternal_d00df_u100J4 rfl rfl rfl rfl (by decide +kernel) ⟨(Nat.le_of_ble_eq_true rfl), (Nat.le_of_ble_eq_true rfl)⟩) hK hP hD hS hA hJ [0, 1] [] rfl rfl rfl rfl (by decide) rfl rfl rfl hl.1 rfl (Nat.le_of_ble_eq_true rfl) dJ5_setLength_d00df_15 ⟨(Nat.le_of_eq (Nat.zero_add _)), (Nat.le_of_eq (Nat.zero_add _))⟩ (fun u H locs hu hP hD hS => ?_)
    have hP : va_P D vwCl [(a, .inr (1, [.ref u.1, .int 0, .int ml, .int (nI n)])), (u.1, .inl (y 2, sb_cap 0 m, .inl u.2))] H := hP
    have hD : va_D A [(a, .inr (1, [.ref u.1, .int 0, .int ml, .int (nI n)])), (u.1, .inl (y 2, sb_cap 0 m, .inl u.2))] := hD
    rw [show sb_cap 0 m = m from if_pos (Nat.zero_le m)] at hP hD
    have hP : va_P D vwCl [(a, .inr (1, [.ref u.1, .int 0, .int ml, .int (nI n)])), (u.1, .inl (y 2, m, .inl u.2))] H := hP
    have hD : va_D A [(a, .inr (1, [.ref u.1, .int 0, .int ml, .int (nI n)])), (u.1, .inl (y 2, m, .inl u.2))] := hD
    refine lv_aload_n hx hb dJ5_setLength_d00df_18 rfl (lv_at hl 0 rfl) ?_
    refine va_get (D := D) (ci := 1) (v := .int (nI n)) (C := RJ4) (T := TJ4) (N := 4) hx hb hts iJ5_setLength_d00df_J4 hown hK hP 0 rfl rfl 3 (by decide) (hts (.fieldLink RJ5 79 "java/lang/AbstractStringBuilder" "count" "I") (List.mem_of_getElem? (i := 4) rfl)) (fun _ h9 => h9) rfl dJ5_setLength_d00df_19 ?_
    refine lv_iload_n hx hb dJ5_setLength_d00df_22 rfl (lv_at hl 1 rfl) ?_
    refine lv_icmp_ge (tgt := 63) hx hb dJ5_setLength_d00df_23 (by decide) (fun _ => ?_) (fun h9 => absurd (nI_pos2 (by omega)) h9)
    refine lv_aload_n hx hb dJ5_setLength_d00df_63 rfl (lv_at hl 0 rfl) ?_
    refine va_get (D := D) (ci := 1) (v := .int (nI n)) (C := RJ4) (T := TJ4) (N := 4) hx hb hts iJ5_setLength_d00df_J4 hown hK hP 0 rfl rfl 3 (by decide) (hts (.fieldLink RJ5 79 "java/lang/AbstractStringBuilder" "count" "I") (List.mem_of_getElem? (i := 4) rfl)) (fun _ h9 => h9) rfl dJ5_setLength_d00df_64 ?_
    refine lv_iload_n hx hb dJ5_setLength_d00df_67 rfl (lv_at hl 1 rfl) ?_
    refine lv_icmp_le (tgt := 76) hx hb dJ5_setLength_d00df_68 (by decide) (fun _ => ?_) (fun h9 => absurd (by rw [h]; decide) h9)
    refine lv_aload_n hx hb dJ5_setLength_d00df_76 rfl (lv_at hl 0 rfl) ?_
    refine lv_iload_n hx hb dJ5_setLength_d00df_77 rfl (lv_at hl 1 rfl) ?_
    refine va_put (D := D) (ci := 1) (v := .int ((0 : Int32))) (ty := .int) (C := RJ4) (T := TJ4) (N := 4) hx hb hts iJ5_setLength_d00df_J4 tyJ4 tyJ4_ok nmJ4 hown hK hP hD hS 0 rfl rfl 3 (by decide) (hts (.fieldLink RJ5 79 "java/lang/AbstractStringBuilder" "count" "I") (List.mem_of_getElem? (i := 4) rfl)) (fun _ h9 => h9) rfl (by decide +kernel) rfl rfl (Nat.le_of_ble_eq_true rfl) dJ5_setLength_d00df_78 (fun H locs hP hD hS => ?_)
    have hP : va_P D vwCl [(a, .inr (1, [.ref u.1, .int 0, .int ml, .int ((0 : Int32))])), (u.1, .inl (y 2, m, .inl u.2))] H := hP
    have hD : va_D A [(a, .inr (1, [.ref u.1, .int 0, .int ml, .int ((0 : Int32))])), (u.1, .inl (y 2, m, .inl u.2))] := hD
    rw [hQ0]
    refine W.widen (k := (gC 0 m)) (n := (gS 0 m)) (Nat.le_of_eq (Nat.zero_add _)) (Nat.le_of_eq (Nat.zero_add _)) ?_
    exact ret_uv ((u.1, u.2, ml)) (hu.2) hx hb hr hlocks hAe hK hP hD hS [0, 1] rfl rfl dJ5_setLength_d00df_81
  · refine Met.ofW (cc := cJ5_setLength_d00df) (maxL := 2) (ret := none) (by decide) rfl ?_
    intro p e s mi args below meth c s₁ B hml hv
    obtain ⟨hav, hsz, hP, hK, hD0, hJ⟩ := hv
    have hx := B.exec
    have hb := B.bytes
    have hr := B.returns
    have hts := atoms_spec (ws := wsJ5_setLength_d00df) B.pre
    have hown : s.vm.findClass RJ5 = some mi.cls := findClass_of_methodNamed B.named
    have hlocks := B.notSynchronized
    subst hsz
    have hD := hD0.self (sz := s.heap.size)
    obtain ⟨A, hAe⟩ : ∃ A : Nat → Prop, va_A [(a, .inr (1, [.ref v, .int 0, .int ml, .int (nI n)])), (v, .inl (y 2, m, .inl (b)))] s.heap.size = A := ⟨_, rfl⟩
    rw [hAe] at hD
    rw [hAe] at hJ
    have hA : ∀ q, s.heap.size ≤ q → A q := fun q h => by rw [← hAe]; exact Or.inr h
    have hS : va_S A s.heap s.heap [] := va_S.rf
    refine W_q (R1 := (rmx 6 200 (gC 0 m) (gS 0 m))) rfl (fun Q0 hQ0 => ?_)
    refine W_entry hav (Nat.le_of_ble_eq_true rfl) (fun ls hl => ?_)
    have hl : lv_has ls 2 [(0, .ref a), (1, .int ((0 : Int32)))] := hl
    refine lv_iload_n hx hb dJ5_setLength_d00df_0 rfl (lv_at hl 1 rfl) ?_
    refine lv_if_ge (tgt := 13) hx hb dJ5_setLength_d00df_1 (by decide) (fun _ => ?_) (fun h9 => absurd (by decide) h9)
    refine lv_aload_n hx hb dJ5_setLength_d00df_13 rfl (lv_at hl 0 rfl) ?_
    refine lv_iload_n hx hb dJ5_setLength_d00df_14 rfl (lv_at hl 1 rfl) ?_
    refine cj_Uv (As := [.int ((0 : Int32))]) (rest := []) (wr := []) ⟨hx, hb, hml, hown, hts⟩ (c_J5_ensureCapacityInternal_d00df l D y s.heap.size a v n m 0 ml b hm (by omega) hfit) (va_cwU 1 hts gJ5_setLength_d00df_J5_ensureCapacityInternal_d00df_u100J4 rfl rfl rfl rfl (by decide +kernel) ⟨(Nat.le_of_ble_eq_true rfl), (Nat.le_of_ble_eq_true rfl)⟩) hK hP hD hS hA hJ [0, 1] [] rfl rfl rfl rfl (by decide) rfl rfl rfl hl.1 rfl (Nat.le_of_ble_eq_true rfl) dJ5_setLength_d00df_15 ⟨(Nat.le_of_eq (Nat.zero_add _)), (Nat.le_of_eq (Nat.zero_add _))⟩ (fun u H locs hu hP hD hS => ?_)
    have hP : va_P D vwCl [(a, .inr (1, [.ref u.1, .int 0, .int ml, .int (nI n)])), (u.1, .inl (y 2, sb_cap 0 m, .inl u.2))] H := hP
    have hD : va_D A [(a, .inr (1, [.ref u.1, .int 0, .int ml, .int (nI n)])), (u.1, .inl (y 2, sb_cap 0 m, .inl u.2))] := hD
    rw [show sb_cap 0 m = m from if_pos (Nat.zero_le m)] at hP hD
    have hP : va_P D vwCl [(a, .inr (1, [.ref u.1, .int 0, .int ml, .int (nI n)])), (u.1, .inl (y 2, m, .inl u.2))] H := hP
    have hD : va_D A [(a, .inr (1, [.ref u.1, .int 0, .int ml, .int (nI n)])), (u.1, .inl (y 2, m, .inl u.2))] := hD
    refine lv_aload_n hx hb dJ5_setLength_d00df_18 rfl (lv_at hl 0 rfl) ?_
    refine va_get (D := D) (ci := 1) (v := .int (nI n)) (C := RJ4) (T := TJ4) (N := 4) hx hb hts iJ5_setLength_d00df_J4 hown hK hP 0 rfl rfl 3 (by decide) (hts (.fieldLink RJ5 79 "java/lang/AbstractStringBuilder" "count" "I") (List.mem_of_getElem? (i := 4) rfl)) (fun _ h9 => h9) rfl dJ5_setLength_d00df_19 ?_
    refine lv_iload_n hx hb dJ5_setLength_d00df_22 rfl (lv_at hl 1 rfl) ?_
    refine lv_icmp_ge (tgt := 63) hx hb dJ5_setLength_d00df_23 (by decide) (fun _ => ?_) (fun h9 => absurd (nI_pos2 (by omega)) h9)
    refine lv_aload_n hx hb dJ5_setLength_d00df_63 rfl (lv_at hl 0 rfl) ?_
    refine va_get (D := D) (ci := 1) (v := .int (nI n)) (C := RJ4) (T := TJ4) (N := 4) hx hb hts iJ5_setLength_d00df_J4 hown hK hP 0 rfl rfl 3 (by decide) (hts (.fieldLink RJ5 79 "java/lang/AbstractStringBuilder" "count" "I") (List.mem_of_getElem? (i := 4) rfl)) (fun _ h9 => h9) rfl dJ5_setLength_d00df_64 ?_
    refine lv_iload_n hx hb dJ5_setLength_d00df_67 rfl (lv_at hl 1 rfl) ?_
    refine lv_icmp_le (tgt := 76) hx hb dJ5_setLength_d00df_68 (by decide) (fun h9 => absurd h9 (nI_nle (by omega) (by omega))) (fun _ => ?_)
    refine lv_aload_n hx hb dJ5_setLength_d00df_71 rfl (lv_at hl 0 rfl) ?_
    refine lv_iconst (v := 1) hx hb dJ5_setLength_d00df_72 (by decide) ?_
    refine va_put (D := D) (ci := 1) (v := .int ((1 : Int32))) (ty := .boolean) (C := RJ4) (T := TJ4) (N := 4) hx hb hts iJ5_setLength_d00df_J4 tyJ4 tyJ4_ok nmJ4 hown hK hP hD hS 0 rfl rfl 2 (by decide) (hts (.fieldLink RJ5 73 "java/lang/AbstractStringBuilder" "maybeLatin1" "Z") (List.mem_of_getElem? (i := 6) rfl)) (fun _ h9 => h9) rfl (by decide +kernel) (by decide +kernel) (by decide +kernel) (Nat.le_of_ble_eq_true rfl) dJ5_setLength_d00df_73 (fun H locs hP hD hS => ?_)
    have hP : va_P D vwCl [(a, .inr (1, [.ref u.1, .int 0, .int ((1 : Int32)), .int (nI n)])), (u.1, .inl (y 2, m, .inl u.2))] H := hP
    have hD : va_D A [(a, .inr (1, [.ref u.1, .int 0, .int ((1 : Int32)), .int (nI n)])), (u.1, .inl (y 2, m, .inl u.2))] := hD
    refine lv_aload_n hx hb dJ5_setLength_d00df_76 rfl (lv_at hl 0 rfl) ?_
    refine lv_iload_n hx hb dJ5_setLength_d00df_77 rfl (lv_at hl 1 rfl) ?_
    refine va_put (D := D) (ci := 1) (v := .int ((0 : Int32))) (ty := .int) (C := RJ4) (T := TJ4) (N := 4) hx hb hts iJ5_setLength_d00df_J4 tyJ4 tyJ4_ok nmJ4 hown hK hP hD hS 0 rfl rfl 3 (by decide) (hts (.fieldLink RJ5 79 "java/lang/AbstractStringBuilder" "count" "I") (List.mem_of_getElem? (i := 4) rfl)) (fun _ h9 => h9) rfl (by decide +kernel) rfl rfl (Nat.le_of_ble_eq_true rfl) dJ5_setLength_d00df_78 (fun H locs hP hD hS => ?_)
    have hP : va_P D vwCl [(a, .inr (1, [.ref u.1, .int 0, .int ((1 : Int32)), .int ((0 : Int32))])), (u.1, .inl (y 2, m, .inl u.2))] H := hP
    have hD : va_D A [(a, .inr (1, [.ref u.1, .int 0, .int ((1 : Int32)), .int ((0 : Int32))])), (u.1, .inl (y 2, m, .inl u.2))] := hD
    rw [hQ0]
    refine W.widen (k := (gC 0 m)) (n := (gS 0 m)) (Nat.le_of_eq (Nat.zero_add _)) (Nat.le_of_eq (Nat.zero_add _)) ?_
    exact ret_uv ((u.1, u.2, (1 : Int32))) (hu.2) hx hb hr hlocks hAe hK hP hD hS [0, 1] rfl rfl dJ5_setLength_d00df_81
set_option maxHeartbeats 4000000 in
set_option maxRecDepth 100000 in
theorem c_J4_setLength_d00df (l : Launch) (D : va_G) (y : Nat → ClassId) (sz : Nat) (a v n m : Nat) (ml : Int32) (b : Nat → Int32) (hm : m ≤ 65536) (hn : n ≤ 10000) (hfit : sb_Fit b) : Met l yJ4_setLength_d00df wsJ4_setLength_d00df (rmx 7 240 (gC 0 m) (gS 0 m)) (jrP D y [(a, .inr (1, [.ref v, .int 0, .int ml, .int (nI n)])), (v, .inl (y 2, m, .inl (b)))] sz [.ref a, .int 0]) (wQuv (S := Nat × (Nat → Int32) × Int32) D y (fun u => sb_Fit u.2.1) (fun u => [(a, .inr (1, [.ref u.1, .int 0, .int u.2.2, .int 0])), (u.1, .inl (y 2, m, .inl u.2.1))]) [(a, .inr (1, [.ref v, .int 0, .int ml, .int (nI n)])), (v, .inl (y 2, m, .inl (b)))] sz) (gC 0 m) (gS 0 m) (va_A [(a, .inr (1, [.ref v, .int 0, .int ml, .int (nI n)])), (v, .inl (y 2, m, .inl (b)))] sz) := by
  refine Met.ofW (cc := cJ4_setLength_d00df) (maxL := 2) (ret := none) (by decide) rfl ?_
  intro p e s mi args below meth c s₁ B hml hv
  obtain ⟨hav, hsz, hP, hK, hD0, hJ⟩ := hv
  have hx := B.exec
  have hb := B.bytes
  have hr := B.returns
  have hts := atoms_spec (ws := wsJ4_setLength_d00df) B.pre
  have hown : s.vm.findClass RJ4 = some mi.cls := findClass_of_methodNamed B.named
  have hlocks := B.notSynchronized
  subst hsz
  have hD := hD0.self (sz := s.heap.size)
  obtain ⟨A, hAe⟩ : ∃ A : Nat → Prop, va_A [(a, .inr (1, [.ref v, .int 0, .int ml, .int (nI n)])), (v, .inl (y 2, m, .inl (b)))] s.heap.size = A := ⟨_, rfl⟩
  rw [hAe] at hD
  rw [hAe] at hJ
  have hA : ∀ q, s.heap.size ≤ q → A q := fun q h => by rw [← hAe]; exact Or.inr h
  have hS : va_S A s.heap s.heap [] := va_S.rf
  refine W_q (R1 := (rmx 7 240 (gC 0 m) (gS 0 m))) rfl (fun Q0 hQ0 => ?_)
  refine W_entry hav (Nat.le_of_ble_eq_true rfl) (fun ls hl => ?_)
  have hl : lv_has ls 2 [(0, .ref a), (1, .int ((0 : Int32)))] := hl
  refine lv_aload_n hx hb dJ4_setLength_d00df_0 rfl (lv_at hl 0 rfl) ?_
  refine lv_iload_n hx hb dJ4_setLength_d00df_1 rfl (lv_at hl 1 rfl) ?_
  refine cj_Wv (As := [.int ((0 : Int32))]) (rest := []) (wr := []) ⟨hx, hb, hml, hown, hts⟩ (c_J5_setLength_d00df l D y s.heap.size a v n m ml b hm hn hfit) (va_cwSU 1 hts gJ4_setLength_d00df_J5_setLength_d00df_s333 rfl rfl rfl (by decide +kernel) ⟨(Nat.le_of_ble_eq_true rfl), (Nat.le_of_ble_eq_true rfl)⟩) hK hP hD hS hA hJ [0, 1] [] rfl rfl rfl rfl (by decide) rfl rfl rfl hl.1 rfl (Nat.le_of_ble_eq_true rfl) dJ4_setLength_d00df_2 ⟨(Nat.le_of_eq (Nat.zero_add _)), (Nat.le_of_eq (Nat.zero_add _))⟩ (fun u H locs hu hP hD hS => ?_)
  have hP : va_P D vwCl [(a, .inr (1, [.ref u.1, .int 0, .int u.2.2, .int 0])), (u.1, .inl (y 2, m, .inl u.2.1))] H := hP
  have hD : va_D A [(a, .inr (1, [.ref u.1, .int 0, .int u.2.2, .int 0])), (u.1, .inl (y 2, m, .inl u.2.1))] := hD
  rw [hQ0]
  refine W.widen (k := (gC 0 m)) (n := (gS 0 m)) (Nat.le_of_eq (Nat.zero_add _)) (Nat.le_of_eq (Nat.zero_add _)) ?_
  exact ret_uv (u) (hu) hx hb hr hlocks hAe hK hP hD hS [0, 1] rfl rfl dJ4_setLength_d00df_5
theorem iJ5_length_8abf5_J4 : ∀ w ∈ u_ws RJ4 TJ4 4, w ∈ wsJ5_length_8abf5 := fun w h => List.mem_cons_of_mem _ (List.mem_append_right _ h)
set_option maxHeartbeats 4000000 in
set_option maxRecDepth 100000 in
theorem c_J5_length_8abf5 (l : Launch) (D : va_G) (y : Nat → ClassId) (a v : Nat) (ml z : Int32) : Met l yJ5_length_8abf5 wsJ5_length_8abf5 (rmq 0 0) (rdP D y [(a, .inr (1, [.ref v, .int 0, .int ml, .int z]))] [.ref a]) (QcRead (z)) 0 0 (fun _ => False) := by
  refine Met.ofW (cc := cJ5_length_8abf5) (maxL := 1) (ret := (some .int)) (by decide) rfl ?_
  intro p e s mi args below meth c s₁ B hml hv
  obtain ⟨hav, hP, hK⟩ := hv
  have hx := B.exec
  have hb := B.bytes
  have hr := B.returns
  have hts := atoms_spec (ws := wsJ5_length_8abf5) B.pre
  have hown : s.vm.findClass RJ5 = some mi.cls := findClass_of_methodNamed B.named
  have hlocks := B.notSynchronized
  refine W_q (R1 := (rmq 0 0)) rfl (fun Q0 hQ0 => ?_)
  refine W_entry hav (Nat.le_of_ble_eq_true rfl) (fun ls hl => ?_)
  have hl : lv_has ls 1 [(0, .ref a)] := hl
  refine lv_aload_n hx hb dJ5_length_8abf5_0 rfl (lv_at hl 0 rfl) ?_
  refine va_get (D := D) (ci := 1) (v := .int z) (C := RJ4) (T := TJ4) (N := 4) hx hb hts iJ5_length_8abf5_J4 hown hK hP 0 rfl rfl 3 (by decide) (hts (.fieldLink RJ5 79 "java/lang/AbstractStringBuilder" "count" "I") (List.mem_of_getElem? (i := 1) rfl)) (fun _ h9 => h9) rfl dJ5_length_8abf5_1 ?_
  rw [hQ0]
  exact W.iret (v := z) hx hb hr (fun t ht hW => ⟨rfl, ht⟩) (fun _ h => nomatch h) dJ5_length_8abf5_4
set_option maxHeartbeats 4000000 in
set_option maxRecDepth 100000 in
theorem c_J4_length_8abf5 (l : Launch) (D : va_G) (y : Nat → ClassId) (a v : Nat) (ml z : Int32) : Met l yJ4_length_8abf5 wsJ4_length_8abf5 (rmq 1 40) (rdP D y [(a, .inr (1, [.ref v, .int 0, .int ml, .int z]))] [.ref a]) (QcRead (z)) 0 0 (fun _ => False) := by
  refine Met.ofW (cc := cJ4_length_8abf5) (maxL := 1) (ret := (some .int)) (by decide) rfl ?_
  intro p e s mi args below meth c s₁ B hml hv
  obtain ⟨hav, hP, hK⟩ := hv
  have hx := B.exec
  have hb := B.bytes
  have hr := B.returns
  have hts := atoms_spec (ws := wsJ4_length_8abf5) B.pre
  have hown : s.vm.findClass RJ4 = some mi.cls := findClass_of_methodNamed B.named
  have hlocks := B.notSynchronized
  refine W_q (R1 := (rmq 1 40)) rfl (fun Q0 hQ0 => ?_)
  refine W_entry hav (Nat.le_of_ble_eq_true rfl) (fun ls hl => ?_)
  have hl : lv_has ls 1 [(0, .ref a)] := hl
  refine lv_aload_n hx hb dJ4_length_8abf5_0 rfl (lv_at hl 0 rfl) ?_
  refine cr_W (As := []) (rest := []) ⟨hx, hb, hml, hown, hts⟩ (c_J5_length_8abf5 l D y a v ml z) (va_cwSU 0 hts gJ4_length_8abf5_J5_length_8abf5_s343 rfl rfl rfl (by decide +kernel) ⟨(Nat.le_of_ble_eq_true rfl), (Nat.le_of_ble_eq_true rfl)⟩) hK hP [0] rfl rfl rfl rfl hl.1 rfl (Nat.le_of_ble_eq_true rfl) dJ4_length_8abf5_1 ⟨(Nat.le_of_ble_eq_true rfl), (Nat.le_of_ble_eq_true rfl)⟩ ?_
  rw [hQ0]
  exact W.iret (v := z) hx hb hr (fun t ht hW => ⟨rfl, ht⟩) (fun _ h => nomatch h) dJ4_length_8abf5_4
set_option maxHeartbeats 4000000 in
set_option maxRecDepth 100000 in
theorem c_J3_checkIndex_8e157n (l : Launch) (D : va_G) (y : Nat → ClassId) (i n : Nat) (hi : i < n) (hn : n < 2 ^ 31) : Met l yJ3_checkIndex_8e157 wsJ3_checkIndex_8e157 (rmq 0 0) (rdP D y [] [.int (nI i), .int (nI n), .null]) (QcRead (nI i)) 0 0 (fun _ => False) := by
  refine Met.ofW (cc := cJ3_checkIndex_8e157) (maxL := 3) (ret := (some .int)) (by decide) rfl ?_
  intro p e s mi args below meth c s₁ B hml hv
  obtain ⟨hav, hP, hK⟩ := hv
  have hx := B.exec
  have hb := B.bytes
  have hr := B.returns
  have hts := atoms_spec (ws := wsJ3_checkIndex_8e157) B.pre
  have hown : s.vm.findClass RJ3 = some mi.cls := findClass_of_methodNamed B.named
  have hlocks := B.notSynchronized
  refine W_q (R1 := (rmq 0 0)) rfl (fun Q0 hQ0 => ?_)
  refine W_entry hav (Nat.le_of_ble_eq_true rfl) (fun ls hl => ?_)
  have hl : lv_has ls 3 [(0, .int (nI i)), (1, .int (nI n)), (2, .null)] := hl
  refine lv_iload_n hx hb dJ3_checkIndex_8e157_0 rfl (lv_at hl 0 rfl) ?_
  refine lv_if_lt (tgt := 9) hx hb dJ3_checkIndex_8e157_1 (by decide) (fun h9 => absurd h9 (nI_pos (by omega))) (fun _ => ?_)
  refine lv_iload_n hx hb dJ3_checkIndex_8e157_4 rfl (lv_at hl 0 rfl) ?_
  refine lv_iload_n hx hb dJ3_checkIndex_8e157_5 rfl (lv_at hl 1 rfl) ?_
  refine lv_icmp_lt (tgt := 16) hx hb dJ3_checkIndex_8e157_6 (by decide) (fun _ => ?_) (fun h9 => absurd (nI_lt hi hn) h9)
  refine lv_iload_n hx hb dJ3_checkIndex_8e157_16 rfl (lv_at hl 0 rfl) ?_
  rw [hQ0]
  exact W.iret (v := nI i) hx hb hr (fun t ht hW => ⟨rfl, ht⟩) (fun _ h => nomatch h) dJ3_checkIndex_8e157_17
set_option maxHeartbeats 4000000 in
set_option maxRecDepth 100000 in
theorem c_J3_checkIndex_8e157r (l : Launch) (D : va_G) (y : Nat → ClassId) (f : Nat) (i n : Nat) (hi : i < n) (hn : n < 2 ^ 31) : Met l yJ3_checkIndex_8e157 wsJ3_checkIndex_8e157 (rmq 0 0) (rdP D y [] [.int (nI i), .int (nI n), .ref f]) (QcRead (nI i)) 0 0 (fun _ => False) := by
  refine Met.ofW (cc := cJ3_checkIndex_8e157) (maxL := 3) (ret := (some .int)) (by decide) rfl ?_
  intro p e s mi args below meth c s₁ B hml hv
  obtain ⟨hav, hP, hK⟩ := hv
  have hx := B.exec
  have hb := B.bytes
  have hr := B.returns
  have hts := atoms_spec (ws := wsJ3_checkIndex_8e157) B.pre
  have hown : s.vm.findClass RJ3 = some mi.cls := findClass_of_methodNamed B.named
  have hlocks := B.notSynchronized
  refine W_q (R1 := (rmq 0 0)) rfl (fun Q0 hQ0 => ?_)
  refine W_entry hav (Nat.le_of_ble_eq_true rfl) (fun ls hl => ?_)
  have hl : lv_has ls 3 [(0, .int (nI i)), (1, .int (nI n)), (2, .ref f)] := hl
  refine lv_iload_n hx hb dJ3_checkIndex_8e157_0 rfl (lv_at hl 0 rfl) ?_
  refine lv_if_lt (tgt := 9) hx hb dJ3_checkIndex_8e157_1 (by decide) (fun h9 => absurd h9 (nI_pos (by omega))) (fun _ => ?_)
  refine lv_iload_n hx hb dJ3_checkIndex_8e157_4 rfl (lv_at hl 0 rfl) ?_
  refine lv_iload_n hx hb dJ3_checkIndex_8e157_5 rfl (lv_at hl 1 rfl) ?_
  refine lv_icmp_lt (tgt := 16) hx hb dJ3_checkIndex_8e157_6 (by decide) (fun _ => ?_) (fun h9 => absurd (nI_lt hi hn) h9)
  refine lv_iload_n hx hb dJ3_checkIndex_8e157_16 rfl (lv_at hl 0 rfl) ?_
  rw [hQ0]
  exact W.iret (v := nI i) hx hb hr (fun t ht hW => ⟨rfl, ht⟩) (fun _ h => nomatch h) dJ3_checkIndex_8e157_17
set_option maxHeartbeats 4000000 in
set_option maxRecDepth 100000 in
theorem c_J0_checkIndex_df160 (l : Launch) (D : va_G) (y : Nat → ClassId) (sz : Nat) (i n : Nat) (hi : i < n) (hn : n < 2 ^ 31) : Met l yJ0_checkIndex_df160 wsJ0_checkIndex_df160 (rmx 1 40 0 0) (jrP D y [] sz [.int (nI i), .int (nI n)]) (wQuv (S := Unit) D y (fun _ => True) (fun _ => []) [] sz) 0 0 (va_A [] sz) := by
  refine Met.ofW (cc := cJ0_checkIndex_df160) (maxL := 2) (ret := none) (by decide) rfl ?_
  intro p e s mi args below meth c s₁ B hml hv
  obtain ⟨hav, hsz, hP, hK, hD0, hJ⟩ := hv
  have hx := B.exec
  have hb := B.bytes
  have hr := B.returns
  have hts := atoms_spec (ws := wsJ0_checkIndex_df160) B.pre
  have hown : s.vm.findClass RJ0 = some mi.cls := findClass_of_methodNamed B.named
  have hlocks := B.notSynchronized
  subst hsz
  have hD := hD0.self (sz := s.heap.size)
  obtain ⟨A, hAe⟩ : ∃ A : Nat → Prop, va_A [] s.heap.size = A := ⟨_, rfl⟩
  rw [hAe] at hD
  rw [hAe] at hJ
  have hA : ∀ q, s.heap.size ≤ q → A q := fun q h => by rw [← hAe]; exact Or.inr h
  have hS : va_S A s.heap s.heap [] := va_S.rf
  refine W_q (R1 := (rmx 1 40 0 0)) rfl (fun Q0 hQ0 => ?_)
  refine W_entry hav (Nat.le_of_ble_eq_true rfl) (fun ls hl => ?_)
  have hl : lv_has ls 2 [(0, .int (nI i)), (1, .int (nI n))] := hl
  rcases hJ.2.2.1 with hZ | ⟨f, hZ⟩
  · refine lv_iload_n hx hb dJ0_checkIndex_df160_0 rfl (lv_at hl 0 rfl) ?_
    refine lv_iload_n hx hb dJ0_checkIndex_df160_1 rfl (lv_at hl 1 rfl) ?_
    refine va_gets hx hb hZ hS hown (hts (.fieldLink RJ0 1053 "jdk/internal/util/Preconditions" "SIOOBE_FORMATTER" "Ljava/util/function/BiFunction;") (List.mem_of_getElem? (i := 1) rfl)) (fun _ h9 => h9) dJ0_checkIndex_df160_2 ?_
    refine cr_S (As := [.int (nI i), .int (nI n), .null]) (rest := []) ⟨hx, hb, hml, hown, hts⟩ (c_J3_checkIndex_8e157n l D y i n hi hn) (va_cwS 3 hts gJ0_checkIndex_df160_J3_checkIndex_8e157 rfl rfl rfl (by decide +kernel) ⟨(Nat.le_of_ble_eq_true rfl), (Nat.le_of_ble_eq_true rfl)⟩) hK hP [] rfl rfl hl.1 rfl (Nat.le_of_ble_eq_true rfl) dJ0_checkIndex_df160_5 ⟨(Nat.le_of_ble_eq_true rfl), (Nat.le_of_ble_eq_true rfl)⟩ ?_
    refine lv_pop hx hb dJ0_checkIndex_df160_8 rfl ?_
    rw [hQ0]
    exact ret_uv (()) (trivial) hx hb hr hlocks hAe hK hP hD hS [] rfl rfl dJ0_checkIndex_df160_9
  · refine lv_iload_n hx hb dJ0_checkIndex_df160_0 rfl (lv_at hl 0 rfl) ?_
    refine lv_iload_n hx hb dJ0_checkIndex_df160_1 rfl (lv_at hl 1 rfl) ?_
    refine va_gets hx hb hZ hS hown (hts (.fieldLink RJ0 1053 "jdk/internal/util/Preconditions" "SIOOBE_FORMATTER" "Ljava/util/function/BiFunction;") (List.mem_of_getElem? (i := 1) rfl)) (fun _ h9 => h9) dJ0_checkIndex_df160_2 ?_
    refine cr_S (As := [.int (nI i), .int (nI n), .ref f]) (rest := []) ⟨hx, hb, hml, hown, hts⟩ (c_J3_checkIndex_8e157r l D y f i n hi hn) (va_cwS 3 hts gJ0_checkIndex_df160_J3_checkIndex_8e157 rfl rfl rfl (by decide +kernel) ⟨(Nat.le_of_ble_eq_true rfl), (Nat.le_of_ble_eq_true rfl)⟩) hK hP [] rfl rfl hl.1 rfl (Nat.le_of_ble_eq_true rfl) dJ0_checkIndex_df160_5 ⟨(Nat.le_of_ble_eq_true rfl), (Nat.le_of_ble_eq_true rfl)⟩ ?_
    refine lv_pop hx hb dJ0_checkIndex_df160_8 rfl ?_
    rw [hQ0]
    exact ret_uv (()) (trivial) hx hb hr hlocks hAe hK hP hD hS [] rfl rfl dJ0_checkIndex_df160_9
theorem iJ5_charAt_5068e_J4 : ∀ w ∈ u_ws RJ4 TJ4 4, w ∈ wsJ5_charAt_5068e := fun w h => List.mem_cons_of_mem _ (List.mem_append_right _ h)
set_option maxHeartbeats 4000000 in
set_option maxRecDepth 100000 in
theorem c_J5_charAt_5068e (l : Launch) (D : va_G) (y : Nat → ClassId) (sz : Nat) (a v n m i : Nat) (ml : Int32) (t : Nat → Nat) (b : Nat → Int32) (hnm : n ≤ m) (hm : m ≤ 65536) (hL : sb_Lat t n b) (hi : i < n) : Met l yJ5_charAt_5068e wsJ5_charAt_5068e (rmx 4 140 0 0) (jrP D y [(a, .inr (1, [.ref v, .int 0, .int ml, .int (nI n)])), (v, .inl (y 2, m, .inl (b)))] sz [.ref a, .int (nI i)]) (wQui (S := Unit) D y (nI (t i)) (fun _ => True) (fun _ => [(a, .inr (1, [.ref v, .int 0, .int ml, .int (nI n)])), (v, .inl (y 2, m, .inl (b)))]) [(a, .inr (1, [.ref v, .int 0, .int ml, .int (nI n)])), (v, .inl (y 2, m, .inl (b)))] sz) 0 0 (va_A [(a, .inr (1, [.ref v, .int 0, .int ml, .int (nI n)])), (v, .inl (y 2, m, .inl (b)))] sz) := by
  refine Met.ofW (cc := cJ5_charAt_5068e) (maxL := 5) (ret := (some .char)) (by decide) rfl ?_
  intro p e s mi args below meth c s₁ B hml hv
  obtain ⟨hav, hsz, hP, hK, hD0, hJ⟩ := hv
  have hx := B.exec
  have hb := B.bytes
  have hr := B.returns
  have hts := atoms_spec (ws := wsJ5_charAt_5068e) B.pre
  have hown : s.vm.findClass RJ5 = some mi.cls := findClass_of_methodNamed B.named
  have hlocks := B.notSynchronized
  subst hsz
  have hD := hD0.self (sz := s.heap.size)
  obtain ⟨A, hAe⟩ : ∃ A : Nat → Prop, va_A [(a, .inr (1, [.ref v, .int 0, .int ml, .int (nI n)])), (v, .inl (y 2, m, .inl (b)))] s.heap.size = A := ⟨_, rfl⟩
  rw [hAe] at hD
  rw [hAe] at hJ
  have hA : ∀ q, s.heap.size ≤ q → A q := fun q h => by rw [← hAe]; exact Or.inr h
  have hS : va_S A s.heap s.heap [] := va_S.rf
  refine W_q (R1 := (rmx 4 140 0 0)) rfl (fun Q0 hQ0 => ?_)
  refine W_entry hav (Nat.le_of_ble_eq_true rfl) (fun ls hl => ?_)
  have hl : lv_has ls 5 [(0, .ref a), (1, .int (nI i))] := hl
  refine lv_aload_n hx hb dJ5_charAt_5068e_0 rfl (lv_at hl 0 rfl) ?_
  refine va_get (D := D) (ci := 1) (v := .int 0) (C := RJ4) (T := TJ4) (N := 4) hx hb hts iJ5_charAt_5068e_J4 hown hK hP 0 rfl rfl 1 (by decide) (hts (.fieldLink RJ5 22 "java/lang/AbstractStringBuilder" "coder" "B") (List.mem_of_getElem? (i := 1) rfl)) (fun _ h9 => h9) rfl dJ5_charAt_5068e_1 ?_
  refine lv_istore_n (lv' := [(2, .int (0)), (0, .ref a), (1, .int (nI i))]) hx hb dJ5_charAt_5068e_4 rfl hl (by decide) rfl (fun ls hl => ?_)
  refine lv_aload_n hx hb dJ5_charAt_5068e_5 rfl (lv_at hl 1 rfl) ?_
  refine va_get (D := D) (ci := 1) (v := .ref v) (C := RJ4) (T := TJ4) (N := 4) hx hb hts iJ5_charAt_5068e_J4 hown hK hP 0 rfl rfl 0 (by decide) (hts (.fieldLink RJ5 15 "java/lang/AbstractStringBuilder" "value" "[B") (List.mem_of_getElem? (i := 2) rfl)) (fun _ h9 => h9) rfl dJ5_charAt_5068e_6 ?_
  refine lv_astore_n (lv' := [(3, .ref v), (2, .int (0)), (0, .ref a), (1, .int (nI i))]) hx hb dJ5_charAt_5068e_9 rfl hl (by decide) rfl (fun ls hl => ?_)
  refine lv_aload_n hx hb dJ5_charAt_5068e_10 rfl (lv_at hl 2 rfl) ?_
  refine va_get (D := D) (ci := 1) (v := .int (nI n)) (C := RJ4) (T := TJ4) (N := 4) hx hb hts iJ5_charAt_5068e_J4 hown hK hP 0 rfl rfl 3 (by decide) (hts (.fieldLink RJ5 79 "java/lang/AbstractStringBuilder" "count" "I") (List.mem_of_getElem? (i := 3) rfl)) (fun _ h9 => h9) rfl dJ5_charAt_5068e_11 ?_
  refine lv_aload_n hx hb dJ5_charAt_5068e_14 rfl (lv_at hl 0 rfl) ?_
  refine va_alen (v := nI (m)) hx hb hK hP 1 2 rfl rfl rfl dJ5_charAt_5068e_15 ?_
  refine lv_iload_n hx hb dJ5_charAt_5068e_16 rfl (lv_at hl 1 rfl) ?_
  refine lv_ishr hx hb dJ5_charAt_5068e_17 ?_
  refine s1_is (z := nI (m)) (sb_shr0 _) ?_
  refine va_mmin hx hb (hml.trans hl.1.symm) hown (hts (.methodLink RJ5 138 Lib.Math.min.name) (by decide +kernel)) (hts (.static Lib.Math.min.name) (by decide +kernel)) (hts (.initialized "java/lang/Math") (by decide +kernel)) (hts (.code Lib.Math.min.name Lib.Math.min.code 2 (some .int)) (by decide +kernel)) (Nat.le_of_ble_eq_true rfl) (Nat.le_of_ble_eq_true rfl) (Nat.le_of_ble_eq_true rfl) (Nat.le_of_ble_eq_true rfl) dJ5_charAt_5068e_18 ?_
  refine s1_is (z := nI n) (nI_minN hnm (by omega)) ?_
  refine lv_istore (lv' := [(4, .int (nI n)), (3, .ref v), (2, .int (0)), (0, .ref a), (1, .int (nI i))]) hx hb dJ5_charAt_5068e_21 hl (by decide) rfl (fun ls hl => ?_)
  refine lv_iload_n hx hb dJ5_charAt_5068e_23 rfl (lv_at hl 4 rfl) ?_
  refine lv_iload hx hb dJ5_charAt_5068e_24 (lv_at hl 0 rfl) ?_
  refine cj_Sv (As := [.int (nI i), .int (nI n)]) (rest := []) (wr := [(a, .inr (1, [.ref v, .int 0, .int ml, .int (nI n)])), (v, .inl (y 2, m, .inl (b)))]) ⟨hx, hb, hml, hown, hts⟩ (c_J0_checkIndex_df160 l D y s.heap.size i n hi (by omega)) (va_cwS 2 hts gJ5_charAt_5068e_J0_checkIndex_df160 rfl rfl rfl (by decide +kernel) ⟨(Nat.le_of_ble_eq_true rfl), (Nat.le_of_ble_eq_true rfl)⟩) hK hP hD hS hA hJ [] [0, 1] rfl rfl rfl rfl (by decide) rfl hl.1 rfl (Nat.le_of_ble_eq_true rfl) dJ5_charAt_5068e_26 ⟨(Nat.le_of_ble_eq_true rfl), (Nat.le_of_ble_eq_true rfl)⟩ (fun u H locs hu hP hD hS => ?_)
  have hP : va_P D vwCl [(a, .inr (1, [.ref v, .int 0, .int ml, .int (nI n)])), (v, .inl (y 2, m, .inl (b)))] H := hP
  have hD : va_D A [(a, .inr (1, [.ref v, .int 0, .int ml, .int (nI n)])), (v, .inl (y 2, m, .inl (b)))] := hD
  refine lv_iload_n hx hb dJ5_charAt_5068e_29 rfl (lv_at hl 2 rfl) ?_
  refine lv_if_ne (tgt := 42) hx hb dJ5_charAt_5068e_30 (by decide) (fun h9 => absurd (rfl) h9) (fun _ => ?_)
  refine lv_aload_n hx hb dJ5_charAt_5068e_33 rfl (lv_at hl 1 rfl) ?_
  refine lv_iload_n hx hb dJ5_charAt_5068e_34 rfl (lv_at hl 4 rfl) ?_
  refine va_bald hx hb hK hP 1 2 rfl rfl (vp_in_nI (n := i) (N := m) (by omega) (by omega)) dJ5_charAt_5068e_35 ?_
  refine s1_is (z := sb_b (t i)) (by rw [nI_clamp (by omega)]; exact (hL i hi).2) ?_
  refine lv_sipush (v := 255) hx hb dJ5_charAt_5068e_36 (by decide) ?_
  refine lv_iand hx hb dJ5_charAt_5068e_39 ?_
  refine s1_is (z := nI (t i)) ((sb_byte _ (hL i hi).1).1) ?_
  refine lv_i2c hx hb dJ5_charAt_5068e_40 rfl ?_
  refine s1_is (z := nI (t i)) ((sb_byte _ (hL i hi).1).2.1) ?_
  rw [hQ0]
  exact ret_uz (()) (trivial) hx hb hr ((pk_charN (q := t i) (by have := (hL i hi).1; omega)).1) hlocks hAe hK hP hD hS [0, 1] rfl rfl dJ5_charAt_5068e_41
set_option maxHeartbeats 4000000 in
set_option maxRecDepth 100000 in
theorem c_J4_charAt_5068e (l : Launch) (D : va_G) (y : Nat → ClassId) (sz : Nat) (a v n m i : Nat) (ml : Int32) (t : Nat → Nat) (b : Nat → Int32) (hnm : n ≤ m) (hm : m ≤ 65536) (hL : sb_Lat t n b) (hi : i < n) : Met l yJ4_charAt_5068e wsJ4_charAt_5068e (rmx 5 180 0 0) (jrP D y [(a, .inr (1, [.ref v, .int 0, .int ml, .int (nI n)])), (v, .inl (y 2, m, .inl (b)))] sz [.ref a, .int (nI i)]) (wQui (S := Unit) D y (nI (t i)) (fun _ => True) (fun _ => [(a, .inr (1, [.ref v, .int 0, .int ml, .int (nI n)])), (v, .inl (y 2, m, .inl (b)))]) [(a, .inr (1, [.ref v, .int 0, .int ml, .int (nI n)])), (v, .inl (y 2, m, .inl (b)))] sz) 0 0 (va_A [(a, .inr (1, [.ref v, .int 0, .int ml, .int (nI n)])), (v, .inl (y 2, m, .inl (b)))] sz) := by
  refine Met.ofW (cc := cJ4_charAt_5068e) (maxL := 2) (ret := (some .char)) (by decide) rfl ?_
  intro p e s mi args below meth c s₁ B hml hv
  obtain ⟨hav, hsz, hP, hK, hD0, hJ⟩ := hv
  have hx := B.exec
  have hb := B.bytes
  have hr := B.returns
  have hts := atoms_spec (ws := wsJ4_charAt_5068e) B.pre
  have hown : s.vm.findClass RJ4 = some mi.cls := findClass_of_methodNamed B.named
  have hlocks := B.notSynchronized
  subst hsz
  have hD := hD0.self (sz := s.heap.size)
  obtain ⟨A, hAe⟩ : ∃ A : Nat → Prop, va_A [(a, .inr (1, [.ref v, .int 0, .int ml, .int (nI n)])), (v, .inl (y 2, m, .inl (b)))] s.heap.size = A := ⟨_, rfl⟩
  rw [hAe] at hD
  rw [hAe] at hJ
  have hA : ∀ q, s.heap.size ≤ q → A q := fun q h => by rw [← hAe]; exact Or.inr h
  have hS : va_S A s.heap s.heap [] := va_S.rf
  refine W_q (R1 := (rmx 5 180 0 0)) rfl (fun Q0 hQ0 => ?_)
  refine W_entry hav (Nat.le_of_ble_eq_true rfl) (fun ls hl => ?_)
  have hl : lv_has ls 2 [(0, .ref a), (1, .int (nI i))] := hl
  refine lv_aload_n hx hb dJ4_charAt_5068e_0 rfl (lv_at hl 0 rfl) ?_
  refine lv_iload_n hx hb dJ4_charAt_5068e_1 rfl (lv_at hl 1 rfl) ?_
  refine cj_Wi (As := [.int (nI i)]) (rest := []) (wr := []) ⟨hx, hb, hml, hown, hts⟩ (c_J5_charAt_5068e l D y s.heap.size a v n m i ml t b hnm hm hL hi) (va_cwSU 1 hts gJ4_charAt_5068e_J5_charAt_5068e_s329 rfl rfl rfl (by decide +kernel) ⟨(Nat.le_of_ble_eq_true rfl), (Nat.le_of_ble_eq_true rfl)⟩) hK hP hD hS hA hJ [0, 1] [] rfl rfl rfl rfl (by decide) rfl rfl rfl hl.1 rfl (Nat.le_of_ble_eq_true rfl) dJ4_charAt_5068e_2 ⟨(Nat.le_of_ble_eq_true rfl), (Nat.le_of_ble_eq_true rfl)⟩ (fun u H locs hu hP hD hS => ?_)
  have hP : va_P D vwCl [(a, .inr (1, [.ref v, .int 0, .int ml, .int (nI n)])), (v, .inl (y 2, m, .inl (b)))] H := hP
  have hD : va_D A [(a, .inr (1, [.ref v, .int 0, .int ml, .int (nI n)])), (v, .inl (y 2, m, .inl (b)))] := hD
  rw [hQ0]
  exact ret_uz (()) (trivial) hx hb hr ((pk_charN (q := t i) (by have := (hL i hi).1; omega)).1) hlocks hAe hK hP hD hS [0, 1] rfl rfl dJ4_charAt_5068e_5
theorem iJ5_init_d00df_J4 : ∀ w ∈ u_ws RJ4 TJ4 4, w ∈ wsJ5_init_d00df := fun w h => List.mem_cons_of_mem _ (List.mem_append_right _ h)
set_option maxHeartbeats 4000000 in
set_option maxRecDepth 100000 in
theorem c_J5_init_d00df (l : Launch) (D : va_G) (y : Nat → ClassId) (sz : Nat) (a : Nat) : Met l yJ5_init_d00df wsJ5_init_d00df (rmx 1 40 1 16) (jrP D y [(a, .inr (1, [.null, .int 0, .int 0, .int 0]))] sz [.ref a, .int 16]) (wQn D y (fun u => [(a, .inr (1, [.ref (u 0), .int 0, .int 0, .int 0])), (u 0, .inl (y 2, 16, .inl (fun _ => 0)))]) [(a, .inr (1, [.null, .int 0, .int 0, .int 0]))] sz) 1 16 (va_A [(a, .inr (1, [.null, .int 0, .int 0, .int 0]))] sz) := by
  refine Met.ofW (cc := cJ5_init_d00df) (maxL := 2) (ret := none) (by decide) rfl ?_
  intro p e s mi args below meth c s₁ B hml hv
  obtain ⟨hav, hsz, hP, hK, hD0, hJ⟩ := hv
  have hx := B.exec
  have hb := B.bytes
  have hr := B.returns
  have hts := atoms_spec (ws := wsJ5_init_d00df) B.pre
  have hown : s.vm.findClass RJ5 = some mi.cls := findClass_of_methodNamed B.named
  have hlocks := B.notSynchronized
  subst hsz
  have hD := hD0.self (sz := s.heap.size)
  obtain ⟨A, hAe⟩ : ∃ A : Nat → Prop, va_A [(a, .inr (1, [.null, .int 0, .int 0, .int 0]))] s.heap.size = A := ⟨_, rfl⟩
  rw [hAe] at hD
  rw [hAe] at hJ
  have hA : ∀ q, s.heap.size ≤ q → A q := fun q h => by rw [← hAe]; exact Or.inr h
  have hS : va_S A s.heap s.heap [] := va_S.rf
  refine W_q (R1 := (rmx 1 40 1 16)) rfl (fun Q0 hQ0 => ?_)
  refine W_entry hav (Nat.le_of_ble_eq_true rfl) (fun ls hl => ?_)
  have hl : lv_has ls 2 [(0, .ref a), (1, .int ((16 : Int32)))] := hl
  refine lv_aload_n hx hb dJ5_init_d00df_0 rfl (lv_at hl 0 rfl) ?_
  refine W.objInit hx hb hown (hts (.methodLink RJ5 3 objectInit) (List.mem_of_getElem? (i := 1) rfl)) (hts (.instanceMethod objectInit) (List.mem_of_getElem? (i := 2) rfl)) (hts (.code objectInit ⟨#[0xb1]⟩ 1 none) (List.mem_of_getElem? (i := 3) rfl)) rfl (by rw [hml]; exact hl.1) rfl dJ5_init_d00df_1 (Nat.le_of_ble_eq_true rfl) (Nat.le_of_ble_eq_true rfl) ?_
  refine W.eq (g2 := F0 mi 4 ls []) rfl ?_
  refine va_gets hx hb hJ.1 hS hown (hts (.fieldLink RJ5 18 "java/lang/String" "COMPACT_STRINGS" "Z") (List.mem_of_getElem? (i := 4) rfl)) (fun _ h9 => h9) dJ5_init_d00df_4 ?_
  refine lv_if_eq (tgt := 25) hx hb dJ5_init_d00df_7 (by decide) (fun h9 => absurd h9 (by decide)) (fun _ => ?_)
  refine lv_aload_n hx hb dJ5_init_d00df_10 rfl (lv_at hl 0 rfl) ?_
  refine lv_iload_n hx hb dJ5_init_d00df_11 rfl (lv_at hl 1 rfl) ?_
  refine nw_a (atype := .byte) hx hb (hts (.arrayClass .byte) (List.mem_of_getElem? (i := 5) rfl)) rfl hK hP hD hS hA (a0 := (16, .inl (fun _ => 0))) (N' := 16) (fun _ => rfl) (by decide) (by decide) (Nat.le_of_ble_eq_true rfl) (Nat.le_of_ble_eq_true rfl) (Nat.le_of_ble_eq_true rfl) dJ5_init_d00df_12 2 rfl (fun w H hP hD hS => ?_)
  have hP : va_P D vwCl [(a, .inr (1, [.null, .int 0, .int 0, .int 0])), (w, .inl (y 2, 16, .inl (fun _ => 0)))] H := hP
  have hD : va_D A [(a, .inr (1, [.null, .int 0, .int 0, .int 0])), (w, .inl (y 2, 16, .inl (fun _ => 0)))] := hD
  refine va_put (D := D) (ci := 1) (v := .ref w) (ty := .array .byte) (C := RJ4) (T := TJ4) (N := 4) hx hb hts iJ5_init_d00df_J4 tyJ4 tyJ4_ok nmJ4 hown hK hP hD hS 0 rfl rfl 0 (by decide) (hts (.fieldLink RJ5 15 "java/lang/AbstractStringBuilder" "value" "[B") (List.mem_of_getElem? (i := 6) rfl)) (fun _ h9 => h9) rfl (by decide +kernel) rfl rfl (Nat.le_of_ble_eq_true rfl) dJ5_init_d00df_14 (fun H locs hP hD hS => ?_)
  have hP : va_P D vwCl [(a, .inr (1, [.ref w, .int 0, .int 0, .int 0])), (w, .inl (y 2, 16, .inl (fun _ => 0)))] H := hP
  have hD : va_D A [(a, .inr (1, [.ref w, .int 0, .int 0, .int 0])), (w, .inl (y 2, 16, .inl (fun _ => 0)))] := hD
  refine lv_aload_n hx hb dJ5_init_d00df_17 rfl (lv_at hl 0 rfl) ?_
  refine lv_iconst (v := 0) hx hb dJ5_init_d00df_18 (by decide) ?_
  refine va_put (D := D) (ci := 1) (v := .int ((0 : Int32))) (ty := .byte) (C := RJ4) (T := TJ4) (N := 4) hx hb hts iJ5_init_d00df_J4 tyJ4 tyJ4_ok nmJ4 hown hK hP hD hS 0 rfl rfl 1 (by decide) (hts (.fieldLink RJ5 22 "java/lang/AbstractStringBuilder" "coder" "B") (List.mem_of_getElem? (i := 7) rfl)) (fun _ h9 => h9) rfl (by decide +kernel) (by decide +kernel) (by decide +kernel) (Nat.le_of_ble_eq_true rfl) dJ5_init_d00df_19 (fun H locs hP hD hS => ?_)
  have hP : va_P D vwCl [(a, .inr (1, [.ref w, .int ((0 : Int32)), .int 0, .int 0])), (w, .inl (y 2, 16, .inl (fun _ => 0)))] H := hP
  have hD : va_D A [(a, .inr (1, [.ref w, .int ((0 : Int32)), .int 0, .int 0])), (w, .inl (y 2, 16, .inl (fun _ => 0)))] := hD
  refine lv_goto (tgt := 38) hx hb dJ5_init_d00df_22 (by decide) ?_
  rw [hQ0]
  refine W.widen (k := 1) (n := 16) (Nat.le_of_ble_eq_true rfl) (Nat.le_of_ble_eq_true rfl) ?_
  exact ret_n (pk_ [w]) hx hb hr hlocks hAe hK hP hD hS [0, 1] rfl rfl dJ5_init_d00df_38
set_option maxHeartbeats 4000000 in
set_option maxRecDepth 100000 in
theorem c_J4_init_da8c8 (l : Launch) (D : va_G) (y : Nat → ClassId) (sz : Nat) (a : Nat) : Met l yJ4_init_da8c8 wsJ4_init_da8c8 (rmx 3 80 1 16) (jrP D y [(a, .inr (1, [.null, .int 0, .int 0, .int 0]))] sz [.ref a]) (wQn D y (fun u => [(a, .inr (1, [.ref (u 0), .int 0, .int 0, .int 0])), (u 0, .inl (y 2, 16, .inl (fun _ => 0)))]) [(a, .inr (1, [.null, .int 0, .int 0, .int 0]))] sz) 1 16 (va_A [(a, .inr (1, [.null, .int 0, .int 0, .int 0]))] sz) := by
  refine Met.ofW (cc := cJ4_init_da8c8) (maxL := 1) (ret := none) (by decide) rfl ?_
  intro p e s mi args below meth c s₁ B hml hv
  obtain ⟨hav, hsz, hP, hK, hD0, hJ⟩ := hv
  have hx := B.exec
  have hb := B.bytes
  have hr := B.returns
  have hts := atoms_spec (ws := wsJ4_init_da8c8) B.pre
  have hown : s.vm.findClass RJ4 = some mi.cls := findClass_of_methodNamed B.named
  have hlocks := B.notSynchronized
  subst hsz
  have hD := hD0.self (sz := s.heap.size)
  obtain ⟨A, hAe⟩ : ∃ A : Nat → Prop, va_A [(a, .inr (1, [.null, .int 0, .int 0, .int 0]))] s.heap.size = A := ⟨_, rfl⟩
  rw [hAe] at hD
  rw [hAe] at hJ
  have hA : ∀ q, s.heap.size ≤ q → A q := fun q h => by rw [← hAe]; exact Or.inr h
  have hS : va_S A s.heap s.heap [] := va_S.rf
  refine W_q (R1 := (rmx 3 80 1 16)) rfl (fun Q0 hQ0 => ?_)
  refine W_entry hav (Nat.le_of_ble_eq_true rfl) (fun ls hl => ?_)
  have hl : lv_has ls 1 [(0, .ref a)] := hl
  refine lv_aload_n hx hb dJ4_init_da8c8_0 rfl (lv_at hl 0 rfl) ?_
  refine lv_bipush (v := 16) hx hb dJ4_init_da8c8_1 (by decide) ?_
  refine cj_I (As := [.int (16 : Int32)]) (rest := []) (wr := []) ⟨hx, hb, hml, hown, hts⟩ (c_J5_init_d00df l D y s.heap.size a) (cwI 1 hts gJ4_init_da8c8_J5_init_d00df rfl rfl rfl (hts (.initialized RJ5) (List.mem_of_getElem? (i := 3) rfl)) (hts (.methodLink RJ4 1 yJ5_init_d00df) (List.mem_of_getElem? (i := 1) rfl)) (hts (.instanceMethod yJ5_init_d00df) (List.mem_of_getElem? (i := 2) rfl)) rfl (by decide +kernel) ⟨(Nat.le_of_ble_eq_true rfl), (Nat.le_of_ble_eq_true rfl)⟩) hK hP hD hS hA hJ [0] [] rfl rfl rfl rfl (by decide) rfl hl.1 rfl (Nat.le_of_ble_eq_true rfl) dJ4_init_da8c8_3 ⟨(Nat.le_of_ble_eq_true rfl), (Nat.le_of_ble_eq_true rfl)⟩ (fun u H locs hP hD hS => ?_)
  have hP : va_P D vwCl [(a, .inr (1, [.ref (u 0), .int 0, .int 0, .int 0])), ((u 0), .inl (y 2, 16, .inl (fun _ => 0)))] H := hP
  have hD : va_D A [(a, .inr (1, [.ref (u 0), .int 0, .int 0, .int 0])), ((u 0), .inl (y 2, 16, .inl (fun _ => 0)))] := hD
  rw [hQ0]
  refine W.widen (k := 1) (n := 16) (Nat.le_of_ble_eq_true rfl) (Nat.le_of_ble_eq_true rfl) ?_
  exact ret_n (u) hx hb hr hlocks hAe hK hP hD hS [0, 1] rfl rfl dJ4_init_da8c8_6
