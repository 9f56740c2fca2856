/-! changes -/
def chR (y : Nat → ClassId) (at_ : Nat) (q : Lad) (us : List Lad) (sv : Option Lad) (r : Int32) (V' : va_W) : Prop := (r = 1 ∧ ∃ (q2 : Lad) (rs dt ix lf : Int32) (tx : Nat → Int32) (NN : Nat) (TT : Nat → Nat), GL q2 ∧ Ob y at_ q2 (push q us) sv rs dt ix lf 0 tx NN TT V') ∨ (r = 0 ∧ ∃ (rs dt ix lf : Int32) (tx : Nat → Int32) (NN : Nat) (TT : Nat → Nat), Ob y at_ q us sv rs dt ix lf 0 tx NN TT V')
theorem R_toss {q : Lad} (h : GL q) : (ordR q 116 0 0 1).1 = 0 := by
  obtain ⟨n, hn, hq, -⟩ := GL_n h
  unfold ordR
  rw [hq, e_116]
theorem ka_1 {k : Nat} (hk : k < 1002) : ∃ m, m < 2 ^ 31 ∧ (if 0 ≤ nI k - 1 then nI k - 1 else 0 - (nI k - 1)) = nI m := by
  rcases Nat.eq_zero_or_pos k with rfl | h
  · exact ⟨1, by decide, by decide⟩
  · refine ⟨k - 1, by omega, ?_⟩
    have e : nI k - 1 = nI (k - 1) := show nI k - nI 1 = nI (k - 1) from pk_sub (by omega)
    rw [e, if_pos (Int32.not_lt.mp (nI_nlt0 (by omega)))]
theorem ka_2 {q : Lad} (h : GL q) {n k : Nat} (hn24 : n ≤ 24) (hq : q.1 = nI n) (hk : k < n) : ∃ m, m < 2 ^ 31 ∧ (if 0 ≤ lq_keyAt q (nI k) then lq_keyAt q (nI k) else 0 - lq_keyAt q (nI k)) = nI m := by
  obtain ⟨⟨a, n2, h1, hl, hM⟩, -⟩ := h
  have hn := hl.1
  obtain rfl : n2 = n := (nI_eq (by omega) (by omega)).mp (h1.symm.trans hq)
  rw [z_key hn hq hk]
  obtain ⟨kk, g1, g2⟩ := hl.2.2.2.1 k hk
  rw [g2, if_pos (Int32.not_lt.mp (nI_nlt0 (by omega)))]
  exact ⟨kk, by omega, rfl⟩
theorem iL_changes_J0 : ∀ w ∈ u_ws RJ0 TJ0 4, w ∈ wsL_changes := fun w h => List.mem_cons_of_mem _ (List.mem_append_left _ (List.mem_append_left _ (List.mem_append_left _ (List.mem_append_left _ (List.mem_append_left _ (List.mem_append_left _ (List.mem_append_right _ h)))))))
theorem iL_changes_J4 : ∀ w ∈ u_ws RJ4 TJ4 4, w ∈ wsL_changes := fun w h => List.mem_cons_of_mem _ (List.mem_append_left _ (List.mem_append_left _ (List.mem_append_left _ (List.mem_append_left _ (List.mem_append_left _ (List.mem_append_left _ (List.mem_append_left _ (List.mem_append_left _ (List.mem_append_left _ (List.mem_append_left _ (List.mem_append_left _ (List.mem_append_left _ (List.mem_append_left _ (List.mem_append_left _ (List.mem_append_right _ h)))))))))))))))
set_option maxHeartbeats 4000000 in
set_option maxRecDepth 100000 in
theorem ch_128 {p : Program} {l : Launch} {e : Env} {s : State} {mi : MethodId} {args : Array Value} {below : List Frame} {meth : Method} {c : Code} {D : va_G} {y : Nat → ClassId} {A : Nat → Prop} {at_ : Nat}{q : Lad} {us : List Lad} {sv : Option Lad} {rs dt ix lf : Int32} {tx : Nat → Int32} {ad : Nat → Nat} {V0 : va_W} (hst : l.stackTraces = false) (C0 : mC p l c mi s args D y A cL_changes 4 wsL_changes) (hKS : kS ad A s s.heap) (hr : meth.sig.returnType = some .boolean) (hlocks : meth.locks = false) (hAe : va_A V0 s.heap.size = A) {x key : Int32} : mW p l e (rmx 16 520 70 460) s mi args below meth c D y A at_ q us sv rs dt ix lf 0 tx (anyT) [] (MQ below (oQi D y 0 (chR y at_ q us sv) V0 s.heap.size) args s 70 460 (va_A V0 s.heap.size)) 4 128 [(0, .ref at_), (1, .int (x)), (3, .int (key))] (2) (12) := by
  obtain ⟨hx, hb, hml, hown, hts, hK, hA, hZ, hN, hJ, -⟩ := C0
  intro C S hC hS9 V NN TT hPT hO H locs hP hD hS ls hl
  refine lv_aload_n hx hb dL_changes_128 rfl (lv_at hl 0 rfl) ?_
  refine lv_iload_n hx hb dL_changes_129 rfl (lv_at hl 1 rfl) ?_
  refine lv_iconst (v := 4) hx hb dL_changes_130 (by decide) ?_
  refine lv_ishr hx hb dL_changes_131 ?_
  refine lv_sipush (v := 1002) hx hb dL_changes_132 (by decide) ?_
  refine ow_Mi (As := [.int ((x) >>> (((4 : Int32)) &&& 31)), .int ((1002 : Int32))]) (rest := [.ref at_]) ⟨hx, hb, hml, hown, hts⟩ (o_some l D y H.size ((x) >>> (((4 : Int32)) &&& 31)) 1002 (by decide) V) (va_cwS 2 hts gL_changes_L_some rfl rfl rfl (by decide +kernel) ⟨(Nat.le_of_ble_eq_true rfl), (Nat.le_of_ble_eq_true rfl)⟩) hK hP hD hS hA hZ hN hJ rfl hl.1 rfl (Nat.le_of_ble_eq_true rfl) dL_changes_135 ⟨by show C + 0 ≤ 70; omega, by show S + 0 ≤ 460; omega⟩ (fun r9 V H locs h9 hP hD hS => ?_)
  obtain ⟨rfl, hV9⟩ := h9; have hO := Ob_eq hV9 hO
  obtain ⟨k1, hk1, ek1⟩ := sm_lt (v := (x) >>> (((4 : Int32)) &&& 31)) (n := 1002) (by decide) (by decide)
  refine s1_is (z := nI k1) ek1 ?_
  refine lv_iconst (v := 1) hx hb dL_changes_138 (by decide) ?_
  refine lv_isub hx hb dL_changes_139 ?_
  refine lv_iload_n hx hb dL_changes_140 rfl (lv_at hl 1 rfl) ?_
  refine lv_bipush (v := 8) hx hb dL_changes_141 (by decide) ?_
  refine lv_ishr hx hb dL_changes_143 ?_
  refine lv_bipush (v := 102) hx hb dL_changes_144 (by decide) ?_
  refine ow_Mi (As := [.int ((x) >>> (((8 : Int32)) &&& 31)), .int ((102 : Int32))]) (rest := [.int ((nI k1) - ((1 : Int32))), .ref at_]) ⟨hx, hb, hml, hown, hts⟩ (o_some l D y H.size ((x) >>> (((8 : Int32)) &&& 31)) 102 (by decide) V) (va_cwS 2 hts gL_changes_L_some rfl rfl rfl (by decide +kernel) ⟨(Nat.le_of_ble_eq_true rfl), (Nat.le_of_ble_eq_true rfl)⟩) hK hP hD hS hA hZ hN hJ rfl hl.1 rfl (Nat.le_of_ble_eq_true rfl) dL_changes_146 ⟨by show C + 0 + 0 ≤ 70; omega, by show S + 0 + 0 ≤ 460; omega⟩ (fun r9 V H locs h9 hP hD hS => ?_)
  obtain ⟨rfl, hV9⟩ := h9; have hO := Ob_eq hV9 hO
  obtain ⟨k2, hk2, ek2⟩ := sm_lt (v := (x) >>> (((8 : Int32)) &&& 31)) (n := 102) (by decide) (by decide)
  refine s1_is (z := nI k2) ek2 ?_
  refine lv_iconst (v := 1) hx hb dL_changes_149 (by decide) ?_
  refine lv_isub hx hb dL_changes_150 ?_
  refine ow_Si (As := [.ref at_, .int ((nI k1) - ((1 : Int32))), .int ((nI k2) - ((1 : Int32)))]) (rest := []) ⟨hx, hb, hml, hown, hts⟩ (oL_file l hst D y H.size at_ V ((nI k1) - ((1 : Int32))) ((nI k2) - ((1 : Int32))) hO) (vx_cwSW 3 hts gL_changes_L_file rfl rfl rfl (by decide +kernel) ⟨(Nat.le_of_ble_eq_true rfl), (Nat.le_of_ble_eq_true rfl)⟩) hK hP hD hS hA hZ hN hJ rfl hl.1 rfl (Nat.le_of_ble_eq_true rfl) dL_changes_151 ⟨by show C + 0 + 0 + 1 ≤ 70; omega, by show S + 0 + 0 + 6 ≤ 460; omega⟩ (fun r9 V H locs h9 hP hD hS => ?_)
  rcases h9 with ⟨-, h9r, hge, hG2, hO⟩ | ⟨-, h9r, hO⟩
  · refine lv_if_lt (tgt := 161) hx hb dL_changes_154 (by decide) (fun h9 => absurd h9 (by rw [h9r]; exact Int32.not_lt.mpr (h9r ▸ hge))) (fun _ => ?_)
    refine lv_iconst (v := 1) hx hb dL_changes_157 (by decide) ?_
    refine lv_goto (tgt := 162) hx hb dL_changes_158 (by decide) ?_
    refine W.widen (k := 70) (n := 460) (by omega) (by omega) ?_
    exact omret_z hx hb hr rfl hlocks hAe hK hP hD hS (Or.inl ⟨rfl, _, _, _, _, _, _, _, _, hG2, hO⟩) dL_changes_162
  · refine lv_if_lt (tgt := 161) hx hb dL_changes_154 (by decide) (fun _ => ?_) (fun h9 => absurd (by rw [h9r]; decide) h9)
    refine lv_iconst (v := 0) hx hb dL_changes_161 (by decide) ?_
    refine W.widen (k := 70) (n := 460) (by omega) (by omega) ?_
    exact omret_z hx hb hr rfl hlocks hAe hK hP hD hS (Or.inr ⟨rfl, _, _, _, _, _, _, _, hO⟩) dL_changes_162
set_option maxHeartbeats 4000000 in
set_option maxRecDepth 100000 in
theorem ch_163 {p : Program} {l : Launch} {e : Env} {s : State} {mi : MethodId} {args : Array Value} {below : List Frame} {meth : Method} {c : Code} {D : va_G} {y : Nat → ClassId} {A : Nat → Prop} {at_ : Nat}{q : Lad} {us : List Lad} {sv : Option Lad} {rs dt ix lf : Int32} {tx : Nat → Int32} {ad : Nat → Nat} {V0 : va_W} (hst : l.stackTraces = false) (C0 : mC p l c mi s args D y A cL_changes 4 wsL_changes) (hKS : kS ad A s s.heap) (hr : meth.sig.returnType = some .boolean) (hlocks : meth.locks = false) (hAe : va_A V0 s.heap.size = A) {x key : Int32} : mW p l e (rmx 16 520 70 460) s mi args below meth c D y A at_ q us sv rs dt ix lf 0 tx (anyT) [] (MQ below (oQi D y 0 (chR y at_ q us sv) V0 s.heap.size) args s 70 460 (va_A V0 s.heap.size)) 4 163 [(0, .ref at_), (1, .int (x)), (3, .int (key))] (2) (12) := by
  obtain ⟨hx, hb, hml, hown, hts, hK, hA, hZ, hN, hJ, -⟩ := C0
  intro C S hC hS9 V NN TT hPT hO H locs hP hD hS ls hl
  refine lv_aload_n hx hb dL_changes_163 rfl (lv_at hl 0 rfl) ?_
  refine lv_iload_n hx hb dL_changes_164 rfl (lv_at hl 1 rfl) ?_
  refine lv_iconst (v := 4) hx hb dL_changes_165 (by decide) ?_
  refine lv_ishr hx hb dL_changes_166 ?_
  refine lv_sipush (v := 1000) hx hb dL_changes_167 (by decide) ?_
  refine ow_Mi (As := [.int ((x) >>> (((4 : Int32)) &&& 31)), .int ((1000 : Int32))]) (rest := [.ref at_]) ⟨hx, hb, hml, hown, hts⟩ (o_some l D y H.size ((x) >>> (((4 : Int32)) &&& 31)) 1000 (by decide) V) (va_cwS 2 hts gL_changes_L_some rfl rfl rfl (by decide +kernel) ⟨(Nat.le_of_ble_eq_true rfl), (Nat.le_of_ble_eq_true rfl)⟩) hK hP hD hS hA hZ hN hJ rfl hl.1 rfl (Nat.le_of_ble_eq_true rfl) dL_changes_170 ⟨by show C + 0 ≤ 70; omega, by show S + 0 ≤ 460; omega⟩ (fun r9 V H locs h9 hP hD hS => ?_)
  obtain ⟨rfl, hV9⟩ := h9; have hO := Ob_eq hV9 hO
  obtain ⟨k1, hk1, ek1⟩ := sm_lt (v := (x) >>> (((4 : Int32)) &&& 31)) (n := 1000) (by decide) (by decide)
  refine s1_is (z := nI k1) ek1 ?_
  refine lv_iload_n hx hb dL_changes_173 rfl (lv_at hl 1 rfl) ?_
  refine lv_bipush (v := 8) hx hb dL_changes_174 (by decide) ?_
  refine lv_ishr hx hb dL_changes_176 ?_
  refine lv_bipush (v := 100) hx hb dL_changes_177 (by decide) ?_
  refine ow_Mi (As := [.int ((x) >>> (((8 : Int32)) &&& 31)), .int ((100 : Int32))]) (rest := [.int (nI k1), .ref at_]) ⟨hx, hb, hml, hown, hts⟩ (o_some l D y H.size ((x) >>> (((8 : Int32)) &&& 31)) 100 (by decide) V) (va_cwS 2 hts gL_changes_L_some rfl rfl rfl (by decide +kernel) ⟨(Nat.le_of_ble_eq_true rfl), (Nat.le_of_ble_eq_true rfl)⟩) hK hP hD hS hA hZ hN hJ rfl hl.1 rfl (Nat.le_of_ble_eq_true rfl) dL_changes_179 ⟨by show C + 0 + 0 ≤ 70; omega, by show S + 0 + 0 ≤ 460; omega⟩ (fun r9 V H locs h9 hP hD hS => ?_)
  obtain ⟨rfl, hV9⟩ := h9; have hO := Ob_eq hV9 hO
  obtain ⟨k2, hk2, ek2⟩ := sm_lt (v := (x) >>> (((8 : Int32)) &&& 31)) (n := 100) (by decide) (by decide)
  refine s1_is (z := nI k2) ek2 ?_
  refine lv_iload_n hx hb dL_changes_182 rfl (lv_at hl 1 rfl) ?_
  refine lv_bipush (v := 9) hx hb dL_changes_183 (by decide) ?_
  refine lv_ishr hx hb dL_changes_185 ?_
  refine lv_bipush (v := 7) hx hb dL_changes_186 (by decide) ?_
  refine ow_Mi (As := [.int ((x) >>> (((9 : Int32)) &&& 31)), .int ((7 : Int32))]) (rest := [.int (nI k2), .int (nI k1), .ref at_]) ⟨hx, hb, hml, hown, hts⟩ (o_some l D y H.size ((x) >>> (((9 : Int32)) &&& 31)) 7 (by decide) V) (va_cwS 2 hts gL_changes_L_some rfl rfl rfl (by decide +kernel) ⟨(Nat.le_of_ble_eq_true rfl), (Nat.le_of_ble_eq_true rfl)⟩) hK hP hD hS hA hZ hN hJ rfl hl.1 rfl (Nat.le_of_ble_eq_true rfl) dL_changes_188 ⟨by show C + 0 + 0 + 0 ≤ 70; omega, by show S + 0 + 0 + 0 ≤ 460; omega⟩ (fun r9 V H locs h9 hP hD hS => ?_)
  obtain ⟨rfl, hV9⟩ := h9; have hO := Ob_eq hV9 hO
  obtain ⟨k3, hk3, ek3⟩ := sm_lt (v := (x) >>> (((9 : Int32)) &&& 31)) (n := 7) (by decide) (by decide)
  refine s1_is (z := nI k3) ek3 ?_
  refine ow_Si (As := [.ref at_, .int (nI k1), .int (nI k2), .int (nI k3)]) (rest := []) ⟨hx, hb, hml, hown, hts⟩ (oL_fileTall l hst D y H.size at_ V (nI k1) (nI k2) (nI k3) hO) (vx_cwSW 4 hts gL_changes_L_fileTall rfl rfl rfl (by decide +kernel) ⟨(Nat.le_of_ble_eq_true rfl), (Nat.le_of_ble_eq_true rfl)⟩) hK hP hD hS hA hZ hN hJ rfl hl.1 rfl (Nat.le_of_ble_eq_true rfl) dL_changes_191 ⟨by show C + 0 + 0 + 0 + 1 ≤ 70; omega, by show S + 0 + 0 + 0 + 6 ≤ 460; omega⟩ (fun r9 V H locs h9 hP hD hS => ?_)
  rcases h9 with ⟨-, h9r, hge, hG2, hO⟩ | ⟨-, h9r, hO⟩
  · refine lv_if_lt (tgt := 201) hx hb dL_changes_194 (by decide) (fun h9 => absurd h9 (by rw [h9r]; exact Int32.not_lt.mpr (h9r ▸ hge))) (fun _ => ?_)
    refine lv_iconst (v := 1) hx hb dL_changes_197 (by decide) ?_
    refine lv_goto (tgt := 202) hx hb dL_changes_198 (by decide) ?_
    refine W.widen (k := 70) (n := 460) (by omega) (by omega) ?_
    exact omret_z hx hb hr rfl hlocks hAe hK hP hD hS (Or.inl ⟨rfl, _, _, _, _, _, _, _, _, hG2, hO⟩) dL_changes_202
  · refine lv_if_lt (tgt := 201) hx hb dL_changes_194 (by decide) (fun _ => ?_) (fun h9 => absurd (by rw [h9r]; decide) h9)
    refine lv_iconst (v := 0) hx hb dL_changes_201 (by decide) ?_
    refine W.widen (k := 70) (n := 460) (by omega) (by omega) ?_
    exact omret_z hx hb hr rfl hlocks hAe hK hP hD hS (Or.inr ⟨rfl, _, _, _, _, _, _, _, hO⟩) dL_changes_202
set_option maxHeartbeats 4000000 in
set_option maxRecDepth 100000 in
theorem ch_203 {p : Program} {l : Launch} {e : Env} {s : State} {mi : MethodId} {args : Array Value} {below : List Frame} {meth : Method} {c : Code} {D : va_G} {y : Nat → ClassId} {A : Nat → Prop} {at_ : Nat}{q : Lad} {us : List Lad} {sv : Option Lad} {rs dt ix lf : Int32} {tx : Nat → Int32} {ad : Nat → Nat} {V0 : va_W} (hst : l.stackTraces = false) (C0 : mC p l c mi s args D y A cL_changes 4 wsL_changes) (hKS : kS ad A s s.heap) (hr : meth.sig.returnType = some .boolean) (hlocks : meth.locks = false) (hAe : va_A V0 s.heap.size = A) {x key : Int32} : mW p l e (rmx 16 520 70 460) s mi args below meth c D y A at_ q us sv rs dt ix lf 0 tx (anyT) [] (MQ below (oQi D y 0 (chR y at_ q us sv) V0 s.heap.size) args s 70 460 (va_A V0 s.heap.size)) 4 203 [(0, .ref at_), (1, .int (x)), (3, .int (key))] (2) (12) := by
  obtain ⟨hx, hb, hml, hown, hts, hK, hA, hZ, hN, hJ, -⟩ := C0
  intro C S hC hS9 V NN TT hPT hO H locs hP hD hS ls hl
  refine lv_aload_n hx hb dL_changes_203 rfl (lv_at hl 0 rfl) ?_
  refine lv_iload_n hx hb dL_changes_204 rfl (lv_at hl 2 rfl) ?_
  refine ow_Si (As := [.ref at_, .int (key)]) (rest := []) ⟨hx, hb, hml, hown, hts⟩ (oL_drop l hst D y H.size at_ V (key) hO) (vx_cwSW 2 hts gL_changes_L_drop rfl rfl rfl (by decide +kernel) ⟨(Nat.le_of_ble_eq_true rfl), (Nat.le_of_ble_eq_true rfl)⟩) hK hP hD hS hA hZ hN hJ rfl hl.1 rfl (Nat.le_of_ble_eq_true rfl) dL_changes_205 ⟨by show C + 1 ≤ 70; omega, by show S + 6 ≤ 460; omega⟩ (fun r9 V H locs h9 hP hD hS => ?_)
  rcases h9 with ⟨-, h9r, hge, hG2, hO⟩ | ⟨-, h9r, hO⟩
  · refine lv_if_lt (tgt := 215) hx hb dL_changes_208 (by decide) (fun h9 => absurd h9 (by rw [h9r]; exact Int32.not_lt.mpr (h9r ▸ hge))) (fun _ => ?_)
    refine lv_iconst (v := 1) hx hb dL_changes_211 (by decide) ?_
    refine lv_goto (tgt := 216) hx hb dL_changes_212 (by decide) ?_
    refine W.widen (k := 70) (n := 460) (by omega) (by omega) ?_
    exact omret_z hx hb hr rfl hlocks hAe hK hP hD hS (Or.inl ⟨rfl, _, _, _, _, _, _, _, _, hG2, hO⟩) dL_changes_216
  · refine lv_if_lt (tgt := 215) hx hb dL_changes_208 (by decide) (fun _ => ?_) (fun h9 => absurd (by rw [h9r]; decide) h9)
    refine lv_iconst (v := 0) hx hb dL_changes_215 (by decide) ?_
    refine W.widen (k := 70) (n := 460) (by omega) (by omega) ?_
    exact omret_z hx hb hr rfl hlocks hAe hK hP hD hS (Or.inr ⟨rfl, _, _, _, _, _, _, _, hO⟩) dL_changes_216
set_option maxHeartbeats 4000000 in
set_option maxRecDepth 100000 in
theorem ch_217 {p : Program} {l : Launch} {e : Env} {s : State} {mi : MethodId} {args : Array Value} {below : List Frame} {meth : Method} {c : Code} {D : va_G} {y : Nat → ClassId} {A : Nat → Prop} {at_ : Nat}{q : Lad} {us : List Lad} {sv : Option Lad} {rs dt ix lf : Int32} {tx : Nat → Int32} {ad : Nat → Nat} {V0 : va_W} (hst : l.stackTraces = false) (C0 : mC p l c mi s args D y A cL_changes 4 wsL_changes) (hKS : kS ad A s s.heap) (hr : meth.sig.returnType = some .boolean) (hlocks : meth.locks = false) (hAe : va_A V0 s.heap.size = A) {x key : Int32} : mW p l e (rmx 16 520 70 460) s mi args below meth c D y A at_ q us sv rs dt ix lf 0 tx (anyT) [] (MQ below (oQi D y 0 (chR y at_ q us sv) V0 s.heap.size) args s 70 460 (va_A V0 s.heap.size)) 4 217 [(0, .ref at_), (1, .int (x)), (3, .int (key))] (2) (12) := by
  obtain ⟨hx, hb, hml, hown, hts, hK, hA, hZ, hN, hJ, -⟩ := C0
  intro C S hC hS9 V NN TT hPT hO H locs hP hD hS ls hl
  refine lv_aload_n hx hb dL_changes_217 rfl (lv_at hl 0 rfl) ?_
  refine lv_iload_n hx hb dL_changes_218 rfl (lv_at hl 2 rfl) ?_
  refine ow_Si (As := [.ref at_, .int (key)]) (rest := []) ⟨hx, hb, hml, hown, hts⟩ (oL_raise l hst D y H.size at_ V (key) hO) (vx_cwSW 2 hts gL_changes_L_raise rfl rfl rfl (by decide +kernel) ⟨(Nat.le_of_ble_eq_true rfl), (Nat.le_of_ble_eq_true rfl)⟩) hK hP hD hS hA hZ hN hJ rfl hl.1 rfl (Nat.le_of_ble_eq_true rfl) dL_changes_219 ⟨by show C + 1 ≤ 70; omega, by show S + 6 ≤ 460; omega⟩ (fun r9 V H locs h9 hP hD hS => ?_)
  rcases h9 with ⟨-, h9r, hge, hG2, hO⟩ | ⟨-, h9r, hO⟩
  · refine lv_if_lt (tgt := 229) hx hb dL_changes_222 (by decide) (fun h9 => absurd h9 (by rw [h9r]; exact Int32.not_lt.mpr (h9r ▸ hge))) (fun _ => ?_)
    refine lv_iconst (v := 1) hx hb dL_changes_225 (by decide) ?_
    refine lv_goto (tgt := 230) hx hb dL_changes_226 (by decide) ?_
    refine W.widen (k := 70) (n := 460) (by omega) (by omega) ?_
    exact omret_z hx hb hr rfl hlocks hAe hK hP hD hS (Or.inl ⟨rfl, _, _, _, _, _, _, _, _, hG2, hO⟩) dL_changes_230
  · refine lv_if_lt (tgt := 229) hx hb dL_changes_222 (by decide) (fun _ => ?_) (fun h9 => absurd (by rw [h9r]; decide) h9)
    refine lv_iconst (v := 0) hx hb dL_changes_229 (by decide) ?_
    refine W.widen (k := 70) (n := 460) (by omega) (by omega) ?_
    exact omret_z hx hb hr rfl hlocks hAe hK hP hD hS (Or.inr ⟨rfl, _, _, _, _, _, _, _, hO⟩) dL_changes_230
set_option maxHeartbeats 4000000 in
set_option maxRecDepth 100000 in
theorem ch_231 {p : Program} {l : Launch} {e : Env} {s : State} {mi : MethodId} {args : Array Value} {below : List Frame} {meth : Method} {c : Code} {D : va_G} {y : Nat → ClassId} {A : Nat → Prop} {at_ : Nat}{q : Lad} {us : List Lad} {sv : Option Lad} {rs dt ix lf : Int32} {tx : Nat → Int32} {ad : Nat → Nat} {V0 : va_W} (hst : l.stackTraces = false) (C0 : mC p l c mi s args D y A cL_changes 4 wsL_changes) (hKS : kS ad A s s.heap) (hr : meth.sig.returnType = some .boolean) (hlocks : meth.locks = false) (hAe : va_A V0 s.heap.size = A) {x key : Int32} : mW p l e (rmx 16 520 70 460) s mi args below meth c D y A at_ q us sv rs dt ix lf 0 tx (anyT) [] (MQ below (oQi D y 0 (chR y at_ q us sv) V0 s.heap.size) args s 70 460 (va_A V0 s.heap.size)) 4 231 [(0, .ref at_), (1, .int (x)), (3, .int (key))] (2) (12) := by
  obtain ⟨hx, hb, hml, hown, hts, hK, hA, hZ, hN, hJ, -⟩ := C0
  intro C S hC hS9 V NN TT hPT hO H locs hP hD hS ls hl
  refine lv_aload_n hx hb dL_changes_231 rfl (lv_at hl 0 rfl) ?_
  refine lv_iload_n hx hb dL_changes_232 rfl (lv_at hl 2 rfl) ?_
  refine ow_Si (As := [.ref at_, .int (key)]) (rest := []) ⟨hx, hb, hml, hown, hts⟩ (oL_lower l hst D y H.size at_ V (key) hO) (vx_cwSW 2 hts gL_changes_L_lower rfl rfl rfl (by decide +kernel) ⟨(Nat.le_of_ble_eq_true rfl), (Nat.le_of_ble_eq_true rfl)⟩) hK hP hD hS hA hZ hN hJ rfl hl.1 rfl (Nat.le_of_ble_eq_true rfl) dL_changes_233 ⟨by show C + 1 ≤ 70; omega, by show S + 6 ≤ 460; omega⟩ (fun r9 V H locs h9 hP hD hS => ?_)
  rcases h9 with ⟨-, h9r, hge, hG2, hO⟩ | ⟨-, h9r, hO⟩
  · refine lv_if_lt (tgt := 243) hx hb dL_changes_236 (by decide) (fun h9 => absurd h9 (by rw [h9r]; exact Int32.not_lt.mpr (h9r ▸ hge))) (fun _ => ?_)
    refine lv_iconst (v := 1) hx hb dL_changes_239 (by decide) ?_
    refine lv_goto (tgt := 244) hx hb dL_changes_240 (by decide) ?_
    refine W.widen (k := 70) (n := 460) (by omega) (by omega) ?_
    exact omret_z hx hb hr rfl hlocks hAe hK hP hD hS (Or.inl ⟨rfl, _, _, _, _, _, _, _, _, hG2, hO⟩) dL_changes_244
  · refine lv_if_lt (tgt := 243) hx hb dL_changes_236 (by decide) (fun _ => ?_) (fun h9 => absurd (by rw [h9r]; decide) h9)
    refine lv_iconst (v := 0) hx hb dL_changes_243 (by decide) ?_
    refine W.widen (k := 70) (n := 460) (by omega) (by omega) ?_
    exact omret_z hx hb hr rfl hlocks hAe hK hP hD hS (Or.inr ⟨rfl, _, _, _, _, _, _, _, hO⟩) dL_changes_244
set_option maxHeartbeats 4000000 in
set_option maxRecDepth 100000 in
theorem ch_245 {p : Program} {l : Launch} {e : Env} {s : State} {mi : MethodId} {args : Array Value} {below : List Frame} {meth : Method} {c : Code} {D : va_G} {y : Nat → ClassId} {A : Nat → Prop} {at_ : Nat}{q : Lad} {us : List Lad} {sv : Option Lad} {rs dt ix lf : Int32} {tx : Nat → Int32} {ad : Nat → Nat} {V0 : va_W} (hst : l.stackTraces = false) (C0 : mC p l c mi s args D y A cL_changes 4 wsL_changes) (hKS : kS ad A s s.heap) (hr : meth.sig.returnType = some .boolean) (hlocks : meth.locks = false) (hAe : va_A V0 s.heap.size = A) {x key : Int32} : mW p l e (rmx 16 520 70 460) s mi args below meth c D y A at_ q us sv rs dt ix lf 0 tx (anyT) [] (MQ below (oQi D y 0 (chR y at_ q us sv) V0 s.heap.size) args s 70 460 (va_A V0 s.heap.size)) 4 245 [(0, .ref at_), (1, .int (x)), (3, .int (key))] (2) (12) := by
  obtain ⟨hx, hb, hml, hown, hts, hK, hA, hZ, hN, hJ, -⟩ := C0
  intro C S hC hS9 V NN TT hPT hO H locs hP hD hS ls hl
  refine lv_aload_n hx hb dL_changes_245 rfl (lv_at hl 0 rfl) ?_
  refine lv_iload_n hx hb dL_changes_246 rfl (lv_at hl 1 rfl) ?_
  refine lv_iconst (v := 4) hx hb dL_changes_247 (by decide) ?_
  refine lv_ishr hx hb dL_changes_248 ?_
  refine lv_bipush (v := 6) hx hb dL_changes_249 (by decide) ?_
  refine ow_Mi (As := [.int ((x) >>> (((4 : Int32)) &&& 31)), .int ((6 : Int32))]) (rest := [.ref at_]) ⟨hx, hb, hml, hown, hts⟩ (o_some l D y H.size ((x) >>> (((4 : Int32)) &&& 31)) 6 (by decide) V) (va_cwS 2 hts gL_changes_L_some rfl rfl rfl (by decide +kernel) ⟨(Nat.le_of_ble_eq_true rfl), (Nat.le_of_ble_eq_true rfl)⟩) hK hP hD hS hA hZ hN hJ rfl hl.1 rfl (Nat.le_of_ble_eq_true rfl) dL_changes_251 ⟨by show C + 0 ≤ 70; omega, by show S + 0 ≤ 460; omega⟩ (fun r9 V H locs h9 hP hD hS => ?_)
  obtain ⟨rfl, hV9⟩ := h9; have hO := Ob_eq hV9 hO
  obtain ⟨k1, hk1, ek1⟩ := sm_lt (v := (x) >>> (((4 : Int32)) &&& 31)) (n := 6) (by decide) (by decide)
  refine s1_is (z := nI k1) ek1 ?_
  refine ow_Si (As := [.ref at_, .int (nI k1)]) (rest := []) ⟨hx, hb, hml, hown, hts⟩ (oL_forget l hst D y H.size at_ V (nI k1) hO) (vx_cwSW 2 hts gL_changes_L_forget rfl rfl rfl (by decide +kernel) ⟨(Nat.le_of_ble_eq_true rfl), (Nat.le_of_ble_eq_true rfl)⟩) hK hP hD hS hA hZ hN hJ rfl hl.1 rfl (Nat.le_of_ble_eq_true rfl) dL_changes_254 ⟨by show C + 0 + 1 ≤ 70; omega, by show S + 0 + 6 ≤ 460; omega⟩ (fun r9 V H locs h9 hP hD hS => ?_)
  rcases h9 with ⟨-, h9r, hge, hG2, hO⟩ | ⟨-, h9r, hO⟩
  · refine lv_if_lt (tgt := 264) hx hb dL_changes_257 (by decide) (fun h9 => absurd h9 (by rw [h9r]; exact Int32.not_lt.mpr (h9r ▸ hge))) (fun _ => ?_)
    refine lv_iconst (v := 1) hx hb dL_changes_260 (by decide) ?_
    refine lv_goto (tgt := 265) hx hb dL_changes_261 (by decide) ?_
    refine W.widen (k := 70) (n := 460) (by omega) (by omega) ?_
    exact omret_z hx hb hr rfl hlocks hAe hK hP hD hS (Or.inl ⟨rfl, _, _, _, _, _, _, _, _, hG2, hO⟩) dL_changes_265
  · refine lv_if_lt (tgt := 264) hx hb dL_changes_257 (by decide) (fun _ => ?_) (fun h9 => absurd (by rw [h9r]; decide) h9)
    refine lv_iconst (v := 0) hx hb dL_changes_264 (by decide) ?_
    refine W.widen (k := 70) (n := 460) (by omega) (by omega) ?_
    exact omret_z hx hb hr rfl hlocks hAe hK hP hD hS (Or.inr ⟨rfl, _, _, _, _, _, _, _, hO⟩) dL_changes_265
set_option maxHeartbeats 4000000 in
set_option maxRecDepth 100000 in
theorem ch_266 {p : Program} {l : Launch} {e : Env} {s : State} {mi : MethodId} {args : Array Value} {below : List Frame} {meth : Method} {c : Code} {D : va_G} {y : Nat → ClassId} {A : Nat → Prop} {at_ : Nat}{q : Lad} {us : List Lad} {sv : Option Lad} {rs dt ix lf : Int32} {tx : Nat → Int32} {ad : Nat → Nat} {V0 : va_W} (hst : l.stackTraces = false) (C0 : mC p l c mi s args D y A cL_changes 4 wsL_changes) (hKS : kS ad A s s.heap) (hr : meth.sig.returnType = some .boolean) (hlocks : meth.locks = false) (hAe : va_A V0 s.heap.size = A) {x key : Int32} : mW p l e (rmx 16 520 70 460) s mi args below meth c D y A at_ q us sv rs dt ix lf 0 tx (anyT) [] (MQ below (oQi D y 0 (chR y at_ q us sv) V0 s.heap.size) args s 70 460 (va_A V0 s.heap.size)) 4 266 [(0, .ref at_), (1, .int (x)), (3, .int (key))] (2) (12) := by
  obtain ⟨hx, hb, hml, hown, hts, hK, hA, hZ, hN, hJ, -⟩ := C0
  intro C S hC hS9 V NN TT hPT hO H locs hP hD hS ls hl
  refine lv_aload_n hx hb dL_changes_266 rfl (lv_at hl 0 rfl) ?_
  refine lv_iload_n hx hb dL_changes_267 rfl (lv_at hl 1 rfl) ?_
  refine lv_iconst (v := 4) hx hb dL_changes_268 (by decide) ?_
  refine lv_ishr hx hb dL_changes_269 ?_
  refine lv_bipush (v := 6) hx hb dL_changes_270 (by decide) ?_
  refine ow_Mi (As := [.int ((x) >>> (((4 : Int32)) &&& 31)), .int ((6 : Int32))]) (rest := [.ref at_]) ⟨hx, hb, hml, hown, hts⟩ (o_some l D y H.size ((x) >>> (((4 : Int32)) &&& 31)) 6 (by decide) V) (va_cwS 2 hts gL_changes_L_some rfl rfl rfl (by decide +kernel) ⟨(Nat.le_of_ble_eq_true rfl), (Nat.le_of_ble_eq_true rfl)⟩) hK hP hD hS hA hZ hN hJ rfl hl.1 rfl (Nat.le_of_ble_eq_true rfl) dL_changes_272 ⟨by show C + 0 ≤ 70; omega, by show S + 0 ≤ 460; omega⟩ (fun r9 V H locs h9 hP hD hS => ?_)
  obtain ⟨rfl, hV9⟩ := h9; have hO := Ob_eq hV9 hO
  obtain ⟨k1, hk1, ek1⟩ := sm_lt (v := (x) >>> (((4 : Int32)) &&& 31)) (n := 6) (by decide) (by decide)
  refine s1_is (z := nI k1) ek1 ?_
  refine ow_Si (As := [.ref at_, .int (nI k1)]) (rest := []) ⟨hx, hb, hml, hown, hts⟩ (oL_recall l hst D y H.size at_ V (nI k1) hO) (vx_cwSW 2 hts gL_changes_L_recall rfl rfl rfl (by decide +kernel) ⟨(Nat.le_of_ble_eq_true rfl), (Nat.le_of_ble_eq_true rfl)⟩) hK hP hD hS hA hZ hN hJ rfl hl.1 rfl (Nat.le_of_ble_eq_true rfl) dL_changes_275 ⟨by show C + 0 + 1 ≤ 70; omega, by show S + 0 + 6 ≤ 460; omega⟩ (fun r9 V H locs h9 hP hD hS => ?_)
  rcases h9 with ⟨-, h9r, hge, hG2, hO⟩ | ⟨-, h9r, hO⟩
  · refine lv_if_lt (tgt := 285) hx hb dL_changes_278 (by decide) (fun h9 => absurd h9 (by rw [h9r]; exact Int32.not_lt.mpr (h9r ▸ hge))) (fun _ => ?_)
    refine lv_iconst (v := 1) hx hb dL_changes_281 (by decide) ?_
    refine lv_goto (tgt := 286) hx hb dL_changes_282 (by decide) ?_
    refine W.widen (k := 70) (n := 460) (by omega) (by omega) ?_
    exact omret_z hx hb hr rfl hlocks hAe hK hP hD hS (Or.inl ⟨rfl, _, _, _, _, _, _, _, _, hG2, hO⟩) dL_changes_286
  · refine lv_if_lt (tgt := 285) hx hb dL_changes_278 (by decide) (fun _ => ?_) (fun h9 => absurd (by rw [h9r]; decide) h9)
    refine lv_iconst (v := 0) hx hb dL_changes_285 (by decide) ?_
    refine W.widen (k := 70) (n := 460) (by omega) (by omega) ?_
    exact omret_z hx hb hr rfl hlocks hAe hK hP hD hS (Or.inr ⟨rfl, _, _, _, _, _, _, _, hO⟩) dL_changes_286
set_option maxHeartbeats 4000000 in
set_option maxRecDepth 100000 in
theorem ch_287 {p : Program} {l : Launch} {e : Env} {s : State} {mi : MethodId} {args : Array Value} {below : List Frame} {meth : Method} {c : Code} {D : va_G} {y : Nat → ClassId} {A : Nat → Prop} {at_ : Nat}{q : Lad} {us : List Lad} {sv : Option Lad} {rs dt ix lf : Int32} {tx : Nat → Int32} {ad : Nat → Nat} {V0 : va_W} (hst : l.stackTraces = false) (C0 : mC p l c mi s args D y A cL_changes 4 wsL_changes) (hKS : kS ad A s s.heap) (hr : meth.sig.returnType = some .boolean) (hlocks : meth.locks = false) (hAe : va_A V0 s.heap.size = A) {x key : Int32} : mW p l e (rmx 16 520 70 460) s mi args below meth c D y A at_ q us sv rs dt ix lf 0 tx (anyT) [] (MQ below (oQi D y 0 (chR y at_ q us sv) V0 s.heap.size) args s 70 460 (va_A V0 s.heap.size)) 4 287 [(0, .ref at_), (1, .int (x)), (3, .int (key))] (2) (12) := by
  obtain ⟨hx, hb, hml, hown, hts, hK, hA, hZ, hN, hJ, -⟩ := C0
  intro C S hC hS9 V NN TT hPT hO H locs hP hD hS ls hl
  refine lv_aload_n hx hb dL_changes_287 rfl (lv_at hl 0 rfl) ?_
  refine lv_iload_n hx hb dL_changes_288 rfl (lv_at hl 2 rfl) ?_
  refine lv_iload_n hx hb dL_changes_289 rfl (lv_at hl 1 rfl) ?_
  refine lv_bipush (v := 8) hx hb dL_changes_290 (by decide) ?_
  refine lv_ishr hx hb dL_changes_292 ?_
  refine lv_bipush (v := 102) hx hb dL_changes_293 (by decide) ?_
  refine ow_Mi (As := [.int ((x) >>> (((8 : Int32)) &&& 31)), .int ((102 : Int32))]) (rest := [.int (key), .ref at_]) ⟨hx, hb, hml, hown, hts⟩ (o_some l D y H.size ((x) >>> (((8 : Int32)) &&& 31)) 102 (by decide) V) (va_cwS 2 hts gL_changes_L_some rfl rfl rfl (by decide +kernel) ⟨(Nat.le_of_ble_eq_true rfl), (Nat.le_of_ble_eq_true rfl)⟩) hK hP hD hS hA hZ hN hJ rfl hl.1 rfl (Nat.le_of_ble_eq_true rfl) dL_changes_295 ⟨by show C + 0 ≤ 70; omega, by show S + 0 ≤ 460; omega⟩ (fun r9 V H locs h9 hP hD hS => ?_)
  obtain ⟨rfl, hV9⟩ := h9; have hO := Ob_eq hV9 hO
  obtain ⟨k1, hk1, ek1⟩ := sm_lt (v := (x) >>> (((8 : Int32)) &&& 31)) (n := 102) (by decide) (by decide)
  refine s1_is (z := nI k1) ek1 ?_
  refine lv_iconst (v := 1) hx hb dL_changes_298 (by decide) ?_
  refine lv_isub hx hb dL_changes_299 ?_
  refine ow_Si (As := [.ref at_, .int (key), .int ((nI k1) - ((1 : Int32)))]) (rest := []) ⟨hx, hb, hml, hown, hts⟩ (oL_weigh l hst D y H.size at_ V (key) ((nI k1) - ((1 : Int32))) hO) (vx_cwSW 3 hts gL_changes_L_weigh rfl rfl rfl (by decide +kernel) ⟨(Nat.le_of_ble_eq_true rfl), (Nat.le_of_ble_eq_true rfl)⟩) hK hP hD hS hA hZ hN hJ rfl hl.1 rfl (Nat.le_of_ble_eq_true rfl) dL_changes_300 ⟨by show C + 0 + 1 ≤ 70; omega, by show S + 0 + 6 ≤ 460; omega⟩ (fun r9 V H locs h9 hP hD hS => ?_)
  rcases h9 with ⟨-, h9r, hge, hG2, hO⟩ | ⟨-, h9r, hO⟩
  · refine lv_if_lt (tgt := 310) hx hb dL_changes_303 (by decide) (fun h9 => absurd h9 (by rw [h9r]; exact Int32.not_lt.mpr (h9r ▸ hge))) (fun _ => ?_)
    refine lv_iconst (v := 1) hx hb dL_changes_306 (by decide) ?_
    refine lv_goto (tgt := 311) hx hb dL_changes_307 (by decide) ?_
    refine W.widen (k := 70) (n := 460) (by omega) (by omega) ?_
    exact omret_z hx hb hr rfl hlocks hAe hK hP hD hS (Or.inl ⟨rfl, _, _, _, _, _, _, _, _, hG2, hO⟩) dL_changes_311
  · refine lv_if_lt (tgt := 310) hx hb dL_changes_303 (by decide) (fun _ => ?_) (fun h9 => absurd (by rw [h9r]; decide) h9)
    refine lv_iconst (v := 0) hx hb dL_changes_310 (by decide) ?_
    refine W.widen (k := 70) (n := 460) (by omega) (by omega) ?_
    exact omret_z hx hb hr rfl hlocks hAe hK hP hD hS (Or.inr ⟨rfl, _, _, _, _, _, _, _, hO⟩) dL_changes_311
set_option maxHeartbeats 4000000 in
set_option maxRecDepth 100000 in
theorem ch_312 {p : Program} {l : Launch} {e : Env} {s : State} {mi : MethodId} {args : Array Value} {below : List Frame} {meth : Method} {c : Code} {D : va_G} {y : Nat → ClassId} {A : Nat → Prop} {at_ : Nat}{q : Lad} {us : List Lad} {sv : Option Lad} {rs dt ix lf : Int32} {tx : Nat → Int32} {ad : Nat → Nat} {V0 : va_W} (hst : l.stackTraces = false) (C0 : mC p l c mi s args D y A cL_changes 4 wsL_changes) (hKS : kS ad A s s.heap) (hr : meth.sig.returnType = some .boolean) (hlocks : meth.locks = false) (hAe : va_A V0 s.heap.size = A) {x key : Int32} : mW p l e (rmx 16 520 70 460) s mi args below meth c D y A at_ q us sv rs dt ix lf 0 tx (anyT) [] (MQ below (oQi D y 0 (chR y at_ q us sv) V0 s.heap.size) args s 70 460 (va_A V0 s.heap.size)) 4 312 [(0, .ref at_), (1, .int (x)), (3, .int (key))] (2) (12) := by
  obtain ⟨hx, hb, hml, hown, hts, hK, hA, hZ, hN, hJ, -⟩ := C0
  intro C S hC hS9 V NN TT hPT hO H locs hP hD hS ls hl
  refine lv_aload_n hx hb dL_changes_312 rfl (lv_at hl 0 rfl) ?_
  obtain ⟨fs, he⟩ := Ob_head hO
  have h0 : (ordR q 116 0 0 1).1 = 0 := R_toss (Ob_GL hO)
  refine ow_V (As := []) (rest := []) ⟨hx, hb, hml, hown, hts⟩ (o_toss l hst D y H.size at_ V hO) (cwV 0 hts gL_changes_X7_toss rfl rfl rfl (by decide +kernel) ⟨(Nat.le_of_ble_eq_true rfl), (Nat.le_of_ble_eq_true rfl)⟩) he hK hP hD hS hA hZ hN hJ rfl hl.1 rfl (Nat.le_of_ble_eq_true rfl) dL_changes_313 ⟨by show C + 1 ≤ 70; omega, by show S + 6 ≤ 460; omega⟩ (fun hk => absurd (if_pos h0) hk) (fun _ r9 V H locs h9 hP hD hS => ?_)
  obtain ⟨-, hge, -, hG2, hO⟩ := h9
  refine lv_if_lt (tgt := 323) hx hb dL_changes_316 (by decide) (fun h9 => absurd h9 (Int32.not_lt.mpr hge)) (fun _ => ?_)
  refine lv_iconst (v := 1) hx hb dL_changes_319 (by decide) ?_
  refine lv_goto (tgt := 324) hx hb dL_changes_320 (by decide) ?_
  refine W.widen (k := 70) (n := 460) (by omega) (by omega) ?_
  exact omret_z hx hb hr rfl hlocks hAe hK hP hD hS (Or.inl ⟨rfl, _, _, _, _, _, _, _, _, hG2, hO⟩) dL_changes_324
set_option maxHeartbeats 4000000 in
set_option maxRecDepth 100000 in
theorem ch_325 {p : Program} {l : Launch} {e : Env} {s : State} {mi : MethodId} {args : Array Value} {below : List Frame} {meth : Method} {c : Code} {D : va_G} {y : Nat → ClassId} {A : Nat → Prop} {at_ : Nat}{q : Lad} {us : List Lad} {sv : Option Lad} {rs dt ix lf : Int32} {tx : Nat → Int32} {ad : Nat → Nat} {V0 : va_W} (hst : l.stackTraces = false) (C0 : mC p l c mi s args D y A cL_changes 4 wsL_changes) (hKS : kS ad A s s.heap) (hr : meth.sig.returnType = some .boolean) (hlocks : meth.locks = false) (hAe : va_A V0 s.heap.size = A) {x key : Int32} (m9 : Nat) (hm9 : m9 < 2 ^ 31) (hk9 : (if 0 ≤ key then key else 0 - key) = nI m9) : mW p l e (rmx 16 520 70 460) s mi args below meth c D y A at_ q us sv rs dt ix lf 0 tx (anyT) [] (MQ below (oQi D y 0 (chR y at_ q us sv) V0 s.heap.size) args s 70 460 (va_A V0 s.heap.size)) 4 325 [(0, .ref at_), (1, .int (x)), (3, .int (key))] (2) (12) := by
  obtain ⟨hx, hb, hml, hown, hts, hK, hA, hZ, hN, hJ, -⟩ := C0
  intro C S hC hS9 V NN TT hPT hO H locs hP hD hS ls hl
  refine lv_aload_n hx hb dL_changes_325 rfl (lv_at hl 0 rfl) ?_
  refine lv_iload_n hx hb dL_changes_326 rfl (lv_at hl 1 rfl) ?_
  refine lv_bipush (v := 6) hx hb dL_changes_327 (by decide) ?_
  refine lv_ishr hx hb dL_changes_329 ?_
  refine lv_iconst (v := 1) hx hb dL_changes_330 (by decide) ?_
  refine lv_iand hx hb dL_changes_331 ?_
  refine lv_if_ne (tgt := 390) hx hb dL_changes_332 (by decide) (fun c1 => ?_) (fun c1 => ?_)
  · rw [List.append_nil] at hP hD
    refine va_new (ci := 1) (fs := [.null, .int 0, .int 0, .int 0]) (C := RJ4) (T := TJ4) (N := 4) hx hb hts iL_changes_J4 tyJ4 tyJ4_ok hown (hts (.classLink RL 262 RJ4) (List.mem_of_getElem? (i := 1) rfl)) (hts (.instantiable RJ4 4) (List.mem_of_getElem? (i := 2) rfl)) (hts (.initialized RJ4) (List.mem_of_getElem? (i := 3) rfl)) hK hP hD hS hA rfl (fun j hj => by rcases (show j = 0 ∨ j = 1 ∨ j = 2 ∨ j = 3 by omega) with rfl | rfl | rfl | rfl <;> rfl) (by show C + 1 ≤ 70; omega) (by show S + 4 ≤ 460; omega) dL_changes_390 (fun a H hP hD hS => ?_)
    have hP := P_sw hP
    have hD := D_sw hD
    refine lv_dup hx hb dL_changes_393 rfl ?_
    refine oe_I (As := []) (rest := [.ref a, .ref at_]) (F := V) ⟨hx, hb, hml, hown, hts⟩ (c_J4_init_da8c8 l D y H.size a) (cwI 0 hts gL_changes_J4_init_da8c8 rfl rfl rfl (hts (.initialized RJ4) (List.mem_of_getElem? (i := 3) rfl)) (hts (.methodLink RL 264 yJ4_init_da8c8) (List.mem_of_getElem? (i := 370) rfl)) (hts (.instanceMethod yJ4_init_da8c8) (List.mem_of_getElem? (i := 371) rfl)) rfl (by decide +kernel) ⟨(Nat.le_of_ble_eq_true rfl), (Nat.le_of_ble_eq_true rfl)⟩) hK hP hD hS hA hJ rfl hl.1 rfl (Nat.le_of_ble_eq_true rfl) dL_changes_394 ⟨by show C + 1 + 1 ≤ 70; omega, by show S + 4 + 16 ≤ 460; omega⟩ (fun u0 H locs hP hD hS => ?_)
    obtain ⟨v0, hv0⟩ : ∃ z, u0 0 = z := ⟨_, rfl⟩
    rw [hv0] at hP hD
    have hP : va_P D vwCl ([(a, .inr (1, [.ref v0, .int 0, .int 0, .int (nI (0))])), (v0, .inl (y 2, 16, .inl (fun _ => 0)))] ++ V) H := hP
    have hD : va_D A ([(a, .inr (1, [.ref v0, .int 0, .int 0, .int (nI (0))])), (v0, .inl (y 2, 16, .inl (fun _ => 0)))] ++ V) := hD
    have hL0 : sb_Lat (fun _ => 0) 0 (fun _ => 0) := fun j hj => absurd hj (Nat.not_lt_zero j)
    have hF0 : sb_Fit (fun _ => 0) := sb_fit0
    refine va_ldcwS hx hb hown (hKS 3 _ rfl).1 dL_changes_397 ?_
    refine oe_Sr (As := [.ref (ad 3)]) (rest := [.ref at_]) (F := V) ⟨hx, hb, hml, hown, hts⟩ (c_J4_append_15ec4 l D y H.size (ad 3) 1 (fun j => ([102] : List Nat).getD j 0) a v0 (0) 16 0 (fun _ => 0) (fun _ => 0) (by decide) (by omega) (by omega) hL0 hF0) (cwV 1 hts gL_changes_J4_append_15ec4 rfl rfl rfl (by decide +kernel) ⟨(Nat.le_of_ble_eq_true rfl), (Nat.le_of_ble_eq_true rfl)⟩) hK hP hD hS hA hJ (hKS 3 _ rfl).2 rfl rfl rfl hl.1 rfl (Nat.le_of_ble_eq_true rfl) dL_changes_400 ⟨by show C + 1 + 1 + 0 ≤ 70; omega, by show S + 4 + 16 + 0 ≤ 460; omega⟩ (fun u1 H locs hu1 hP hD hS => ?_)
    obtain ⟨v1, b1⟩ := u1
    obtain ⟨hL1, hF1⟩ := hu1
    have hP : va_P D vwCl ([(a, .inr (1, [.ref v1, .int 0, .int 0, .int (nI (0 + 1))])), (v1, .inl (y 2, 16, .inl (b1)))] ++ V) H := hP
    have hD : va_D A ([(a, .inr (1, [.ref v1, .int 0, .int 0, .int (nI (0 + 1))])), (v1, .inl (y 2, 16, .inl (b1)))] ++ V) := hD
    have hL1 : sb_Lat (sb_cat (fun _ => 0) (0) (fun j => ([102] : List Nat).getD j 0)) (0 + 1) b1 := hL1
    refine lv_iload_n hx hb dL_changes_403 rfl (lv_at hl 1 rfl) ?_
    refine lv_iconst (v := 4) hx hb dL_changes_404 (by decide) ?_
    refine lv_ishr hx hb dL_changes_405 ?_
    refine lv_iconst (v := 5) hx hb dL_changes_406 (by decide) ?_
    refine ow_Mi (As := [.int ((x) >>> (((4 : Int32)) &&& 31)), .int ((5 : Int32))]) (rest := [.ref a, .ref at_]) (V := [(a, .inr (1, [.ref v1, .int 0, .int 0, .int (nI (0 + 1))])), (v1, .inl (y 2, 16, .inl (b1)))]) (E := V) ⟨hx, hb, hml, hown, hts⟩ (o_some l D y H.size ((x) >>> (((4 : Int32)) &&& 31)) 5 (by decide) ([(a, .inr (1, [.ref v1, .int 0, .int 0, .int (nI (0 + 1))])), (v1, .inl (y 2, 16, .inl (b1)))])) (va_cwS 2 hts gL_changes_L_some rfl rfl rfl (by decide +kernel) ⟨(Nat.le_of_ble_eq_true rfl), (Nat.le_of_ble_eq_true rfl)⟩) hK hP hD hS hA hZ hN hJ rfl hl.1 rfl (Nat.le_of_ble_eq_true rfl) dL_changes_407 ⟨by show C + 1 + 1 + 0 + 0 ≤ 70; omega, by show S + 4 + 16 + 0 + 0 ≤ 460; omega⟩ (fun r9 V9 H locs h9 hP hD hS => ?_)
    obtain ⟨rfl, rfl⟩ := h9
    obtain ⟨k1, hk1, ek1⟩ := sm_lt (v := (x) >>> (((4 : Int32)) &&& 31)) (n := 5) (by decide) (by decide)
    refine s1_is (z := nI k1) ek1 ?_
    have hdg2 := dg3 (k := k1) (by omega)
    refine oe_Vr (As := [.int (nI (k1))]) (rest := [.ref at_]) (F := V) ⟨hx, hb, hml, hown, hts⟩ (a_int l D y H.size a v1 (0 + 1) (k1) 0 (sb_cat (fun _ => 0) (0) (fun j => ([102] : List Nat).getD j 0)) (b1) (by omega) hL1 hF1 (by omega)) (cwV 1 hts gL_changes_J4_append_bf812 rfl rfl rfl (by decide +kernel) ⟨(Nat.le_of_ble_eq_true rfl), (Nat.le_of_ble_eq_true rfl)⟩) hK hP hD hS hA hJ rfl rfl rfl hl.1 rfl (Nat.le_of_ble_eq_true rfl) dL_changes_410 ⟨by show C + 1 + 1 + 0 + 0 + 0 ≤ 70; omega, by show S + 4 + 16 + 0 + 0 + 0 ≤ 460; omega⟩ (fun u2 H locs hu2 hP hD hS => ?_)
    obtain ⟨v2, b2⟩ := u2
    obtain ⟨hL2, hF2⟩ := hu2
    have hP : va_P D vwCl ([(a, .inr (1, [.ref v2, .int 0, .int 0, .int (nI (0 + 1 + sb_dg (k1)))])), (v2, .inl (y 2, 16, .inl (b2)))] ++ V) H := hP
    have hD : va_D A ([(a, .inr (1, [.ref v2, .int 0, .int 0, .int (nI (0 + 1 + sb_dg (k1)))])), (v2, .inl (y 2, 16, .inl (b2)))] ++ V) := hD
    have hL2 : sb_Lat (sb_cat (sb_cat (fun _ => 0) (0) (fun j => ([102] : List Nat).getD j 0)) (0 + 1) (sb_dec (k1))) (0 + 1 + sb_dg (k1)) b2 := hL2
    refine va_ldcwS hx hb hown (hKS 4 _ rfl).1 dL_changes_413 ?_
    refine oe_Sr (As := [.ref (ad 4)]) (rest := [.ref at_]) (F := V) ⟨hx, hb, hml, hown, hts⟩ (c_J4_append_15ec4 l D y H.size (ad 4) 2 (fun j => ([59, 117] : List Nat).getD j 0) a v2 (0 + 1 + sb_dg (k1)) 16 0 (sb_cat (sb_cat (fun _ => 0) (0) (fun j => ([102] : List Nat).getD j 0)) (0 + 1) (sb_dec (k1))) (b2) (by decide) (by omega) (by omega) hL2 hF2) (cwV 1 hts gL_changes_J4_append_15ec4 rfl rfl rfl (by decide +kernel) ⟨(Nat.le_of_ble_eq_true rfl), (Nat.le_of_ble_eq_true rfl)⟩) hK hP hD hS hA hJ (hKS 4 _ rfl).2 rfl rfl rfl hl.1 rfl (Nat.le_of_ble_eq_true rfl) dL_changes_416 ⟨by show C + 1 + 1 + 0 + 0 + 0 + 0 ≤ 70; omega, by show S + 4 + 16 + 0 + 0 + 0 + 0 ≤ 460; omega⟩ (fun u3 H locs hu3 hP hD hS => ?_)
    obtain ⟨v3, b3⟩ := u3
    obtain ⟨hL3, hF3⟩ := hu3
    have hP : va_P D vwCl ([(a, .inr (1, [.ref v3, .int 0, .int 0, .int (nI (0 + 1 + sb_dg (k1) + 2))])), (v3, .inl (y 2, 16, .inl (b3)))] ++ V) H := hP
    have hD : va_D A ([(a, .inr (1, [.ref v3, .int 0, .int 0, .int (nI (0 + 1 + sb_dg (k1) + 2))])), (v3, .inl (y 2, 16, .inl (b3)))] ++ V) := hD
    have hL3 : sb_Lat (sb_cat (sb_cat (sb_cat (fun _ => 0) (0) (fun j => ([102] : List Nat).getD j 0)) (0 + 1) (sb_dec (k1))) (0 + 1 + sb_dg (k1)) (fun j => ([59, 117] : List Nat).getD j 0)) (0 + 1 + sb_dg (k1) + 2) b3 := hL3
    refine lv_iload_n hx hb dL_changes_419 rfl (lv_at hl 2 rfl) ?_
    refine va_mabs hx hb (hml.trans hl.1.symm) hown (hts (.methodLink RL 285 Lib.Math.abs.name) (List.mem_of_getElem? (i := 4) rfl)) (hts (.static Lib.Math.abs.name) (List.mem_of_getElem? (i := 5) rfl)) (hts (.initialized "java/lang/Math") (List.mem_of_getElem? (i := 6) rfl)) (hts (.code Lib.Math.abs.name Lib.Math.abs.code 1 (some .int)) (List.mem_of_getElem? (i := 7) rfl)) (Nat.le_of_ble_eq_true rfl) (Nat.le_of_ble_eq_true rfl) (by show C + 1 + 1 + 0 + 0 + 0 + 0 ≤ 70; omega) (by show S + 4 + 16 + 0 + 0 + 0 + 0 ≤ 460; omega) dL_changes_420 ?_
    refine s1_is (z := nI m9) hk9 ?_
    refine lv_sipush (v := 1000) hx hb dL_changes_423 (by decide) ?_
    refine lv_irem hx hb dL_changes_426 (by decide) ?_
    refine s1_is (z := nI (m9 % 1000)) (rem_nI hm9 (by decide) (by decide)) ?_
    have hdg4 := dg3 (k := m9 % 1000) (Nat.mod_lt _ (by decide))
    refine oe_Vr (As := [.int (nI (m9 % 1000))]) (rest := [.ref at_]) (F := V) ⟨hx, hb, hml, hown, hts⟩ (a_int l D y H.size a v3 (0 + 1 + sb_dg (k1) + 2) (m9 % 1000) 0 (sb_cat (sb_cat (sb_cat (fun _ => 0) (0) (fun j => ([102] : List Nat).getD j 0)) (0 + 1) (sb_dec (k1))) (0 + 1 + sb_dg (k1)) (fun j => ([59, 117] : List Nat).getD j 0)) (b3) (by omega) hL3 hF3 (Nat.mod_lt _ (by decide))) (cwV 1 hts gL_changes_J4_append_bf812 rfl rfl rfl (by decide +kernel) ⟨(Nat.le_of_ble_eq_true rfl), (Nat.le_of_ble_eq_true rfl)⟩) hK hP hD hS hA hJ rfl rfl rfl hl.1 rfl (Nat.le_of_ble_eq_true rfl) dL_changes_427 ⟨by show C + 1 + 1 + 0 + 0 + 0 + 0 + 0 ≤ 70; omega, by show S + 4 + 16 + 0 + 0 + 0 + 0 + 0 ≤ 460; omega⟩ (fun u4 H locs hu4 hP hD hS => ?_)
    obtain ⟨v4, b4⟩ := u4
    obtain ⟨hL4, hF4⟩ := hu4
    have hP : va_P D vwCl ([(a, .inr (1, [.ref v4, .int 0, .int 0, .int (nI (0 + 1 + sb_dg (k1) + 2 + sb_dg (m9 % 1000)))])), (v4, .inl (y 2, 16, .inl (b4)))] ++ V) H := hP
    have hD : va_D A ([(a, .inr (1, [.ref v4, .int 0, .int 0, .int (nI (0 + 1 + sb_dg (k1) + 2 + sb_dg (m9 % 1000)))])), (v4, .inl (y 2, 16, .inl (b4)))] ++ V) := hD
    have hL4 : sb_Lat (sb_cat (sb_cat (sb_cat (sb_cat (fun _ => 0) (0) (fun j => ([102] : List Nat).getD j 0)) (0 + 1) (sb_dec (k1))) (0 + 1 + sb_dg (k1)) (fun j => ([59, 117] : List Nat).getD j 0)) (0 + 1 + sb_dg (k1) + 2) (sb_dec (m9 % 1000))) (0 + 1 + sb_dg (k1) + 2 + sb_dg (m9 % 1000)) b4 := hL4
    refine va_ldcwS hx hb hown (hKS 2 _ rfl).1 dL_changes_430 ?_
    refine oe_Sr (As := [.ref (ad 2)]) (rest := [.ref at_]) (F := V) ⟨hx, hb, hml, hown, hts⟩ (c_J4_append_15ec4 l D y H.size (ad 2) 2 (fun j => ([59, 116] : List Nat).getD j 0) a v4 (0 + 1 + sb_dg (k1) + 2 + sb_dg (m9 % 1000)) 16 0 (sb_cat (sb_cat (sb_cat (sb_cat (fun _ => 0) (0) (fun j => ([102] : List Nat).getD j 0)) (0 + 1) (sb_dec (k1))) (0 + 1 + sb_dg (k1)) (fun j => ([59, 117] : List Nat).getD j 0)) (0 + 1 + sb_dg (k1) + 2) (sb_dec (m9 % 1000))) (b4) (by decide) (by omega) (by omega) hL4 hF4) (cwV 1 hts gL_changes_J4_append_15ec4 rfl rfl rfl (by decide +kernel) ⟨(Nat.le_of_ble_eq_true rfl), (Nat.le_of_ble_eq_true rfl)⟩) hK hP hD hS hA hJ (hKS 2 _ rfl).2 rfl rfl rfl hl.1 rfl (Nat.le_of_ble_eq_true rfl) dL_changes_433 ⟨by show C + 1 + 1 + 0 + 0 + 0 + 0 + 0 + 0 ≤ 70; omega, by show S + 4 + 16 + 0 + 0 + 0 + 0 + 0 + 0 ≤ 460; omega⟩ (fun u5 H locs hu5 hP hD hS => ?_)
    obtain ⟨v5, b5⟩ := u5
    obtain ⟨hL5, hF5⟩ := hu5
    have hP : va_P D vwCl ([(a, .inr (1, [.ref v5, .int 0, .int 0, .int (nI (0 + 1 + sb_dg (k1) + 2 + sb_dg (m9 % 1000) + 2))])), (v5, .inl (y 2, 16, .inl (b5)))] ++ V) H := hP
    have hD : va_D A ([(a, .inr (1, [.ref v5, .int 0, .int 0, .int (nI (0 + 1 + sb_dg (k1) + 2 + sb_dg (m9 % 1000) + 2))])), (v5, .inl (y 2, 16, .inl (b5)))] ++ V) := hD
    have hL5 : sb_Lat (sb_cat (sb_cat (sb_cat (sb_cat (sb_cat (fun _ => 0) (0) (fun j => ([102] : List Nat).getD j 0)) (0 + 1) (sb_dec (k1))) (0 + 1 + sb_dg (k1)) (fun j => ([59, 117] : List Nat).getD j 0)) (0 + 1 + sb_dg (k1) + 2) (sb_dec (m9 % 1000))) (0 + 1 + sb_dg (k1) + 2 + sb_dg (m9 % 1000)) (fun j => ([59, 116] : List Nat).getD j 0)) (0 + 1 + sb_dg (k1) + 2 + sb_dg (m9 % 1000) + 2) b5 := hL5
    refine oe_Vr (As := []) (rest := [.ref at_]) (F := V) ⟨hx, hb, hml, hown, hts⟩ (c_J4_toString_0e30d l D y H.size a v5 (0 + 1 + sb_dg (k1) + 2 + sb_dg (m9 % 1000) + 2) 16 0 (b5) (by omega) (by decide) hF5) (cwV 0 hts gL_changes_J4_toString_0e30d rfl rfl rfl (by decide +kernel) ⟨(Nat.le_of_ble_eq_true rfl), (Nat.le_of_ble_eq_true rfl)⟩) hK hP hD hS hA hJ rfl rfl rfl hl.1 rfl (Nat.le_of_ble_eq_true rfl) dL_changes_436 ⟨by show C + 1 + 1 + 0 + 0 + 0 + 0 + 0 + 0 + 2 ≤ 70; omega, by show S + 4 + 16 + 0 + 0 + 0 + 0 + 0 + 0 + (0 + 1 + sb_dg (k1) + 2 + sb_dg (m9 % 1000) + 2 + 4) ≤ 460; omega⟩ (fun us9 H locs hus hP hD hS => ?_)
    obtain ⟨sa, tv, bs9⟩ := us9
    have hP : va_P D vwCl (V ++ [(a, .inr (1, [.ref v5, .int 0, .int 0, .int (nI (0 + 1 + sb_dg (k1) + 2 + sb_dg (m9 % 1000) + 2))])), (v5, .inl (y 2, 16, .inl (b5))), (sa, .inr (0, [.ref tv, .int 0, .int 0, .int 0])), (tv, .inl (y 2, 0 + 1 + sb_dg (k1) + 2 + sb_dg (m9 % 1000) + 2, .inl bs9))]) H := P_sw hP
    have hD : va_D A (V ++ [(a, .inr (1, [.ref v5, .int 0, .int 0, .int (nI (0 + 1 + sb_dg (k1) + 2 + sb_dg (m9 % 1000) + 2))])), (v5, .inl (y 2, 16, .inl (b5))), (sa, .inr (0, [.ref tv, .int 0, .int 0, .int 0])), (tv, .inl (y 2, 0 + 1 + sb_dg (k1) + 2 + sb_dg (m9 % 1000) + 2, .inl bs9))]) := D_sw hD
    refine ow_Rd (As := [.ref at_, .ref sa]) (rest := []) (V := V) (E := [(a, .inr (1, [.ref v5, .int 0, .int 0, .int (nI (0 + 1 + sb_dg (k1) + 2 + sb_dg (m9 % 1000) + 2))])), (v5, .inl (y 2, 16, .inl (b5))), (sa, .inr (0, [.ref tv, .int 0, .int 0, .int 0])), (tv, .inl (y 2, 0 + 1 + sb_dg (k1) + 2 + sb_dg (m9 % 1000) + 2, .inl bs9))]) ⟨hx, hb, hml, hown, hts⟩ (oL_reads l hst D y H.size at_ V sa (0 + 1 + sb_dg (k1) + 2 + sb_dg (m9 % 1000) + 2) (sb_cat (sb_cat (sb_cat (sb_cat (sb_cat (fun _ => 0) (0) (fun j => ([102] : List Nat).getD j 0)) (0 + 1) (sb_dec (k1))) (0 + 1 + sb_dg (k1)) (fun j => ([59, 117] : List Nat).getD j 0)) (0 + 1 + sb_dg (k1) + 2) (sb_dec (m9 % 1000))) (0 + 1 + sb_dg (k1) + 2 + sb_dg (m9 % 1000)) (fun j => ([59, 116] : List Nat).getD j 0)) (by omega) hO) (va_cwS 2 hts gL_changes_L_reads rfl rfl rfl (by decide +kernel) ⟨(Nat.le_of_ble_eq_true rfl), (Nat.le_of_ble_eq_true rfl)⟩) hK hP hD hS hA hZ hN hJ (fun U hW => (strC_of hts iL_changes_J0 hK hP hD 2 3 rfl rfl (fun k hk => ⟨(hL5 k hk).1, (hus k hk).trans (hL5 k hk).2⟩)).moved hW.alike) rfl hl.1 rfl (Nat.le_of_ble_eq_true rfl) dL_changes_439 ⟨by show C + 1 + 1 + 0 + 0 + 0 + 0 + 0 + 0 + 2 + 62 ≤ 70; omega, by show S + 4 + 16 + 0 + 0 + 0 + 0 + 0 + 0 + (0 + 1 + sb_dg (k1) + 2 + sb_dg (m9 % 1000) + 2 + 4) + 400 ≤ 460; omega⟩ (fun r9 V H locs h9 hP hD hS => ?_)
    rcases h9 with ⟨x9, -, h9r, hO⟩ | ⟨-, v9, rs2, dt2, ix2, -, ⟨-, h9r, hO⟩ | ⟨h9r, hv9, q2, hG2, hO⟩⟩
    · refine lv_if_lt (tgt := 449) hx hb dL_changes_442 (by decide) (fun _ => ?_) (fun h9 => absurd (by rw [h9r]; decide) h9)
      refine lv_iconst (v := 0) hx hb dL_changes_449 (by decide) ?_
      refine W.widen (k := 70) (n := 460) (by omega) (by omega) ?_
      exact omret_z hx hb hr rfl hlocks hAe hK hP hD hS (Or.inr ⟨rfl, _, _, _, _, _, _, _, hO⟩) dL_changes_450
    · refine lv_if_lt (tgt := 449) hx hb dL_changes_442 (by decide) (fun _ => ?_) (fun h9 => absurd (by rw [h9r]; decide) h9)
      refine lv_iconst (v := 0) hx hb dL_changes_449 (by decide) ?_
      refine W.widen (k := 70) (n := 460) (by omega) (by omega) ?_
      exact omret_z hx hb hr rfl hlocks hAe hK hP hD hS (Or.inr ⟨rfl, _, _, _, _, _, _, _, hO⟩) dL_changes_450
    · refine lv_if_lt (tgt := 449) hx hb dL_changes_442 (by decide) (fun h9 => absurd h9 (by rw [h9r]; exact Int32.not_lt.mpr hv9)) (fun _ => ?_)
      refine lv_iconst (v := 1) hx hb dL_changes_445 (by decide) ?_
      refine lv_goto (tgt := 450) hx hb dL_changes_446 (by decide) ?_
      refine W.widen (k := 70) (n := 460) (by omega) (by omega) ?_
      exact omret_z hx hb hr rfl hlocks hAe hK hP hD hS (Or.inl ⟨rfl, _, _, _, _, _, _, _, _, hG2, hO⟩) dL_changes_450
  · rw [List.append_nil] at hP hD
    refine va_new (ci := 1) (fs := [.null, .int 0, .int 0, .int 0]) (C := RJ4) (T := TJ4) (N := 4) hx hb hts iL_changes_J4 tyJ4 tyJ4_ok hown (hts (.classLink RL 262 RJ4) (List.mem_of_getElem? (i := 1) rfl)) (hts (.instantiable RJ4 4) (List.mem_of_getElem? (i := 2) rfl)) (hts (.initialized RJ4) (List.mem_of_getElem? (i := 3) rfl)) hK hP hD hS hA rfl (fun j hj => by rcases (show j = 0 ∨ j = 1 ∨ j = 2 ∨ j = 3 by omega) with rfl | rfl | rfl | rfl <;> rfl) (by show C + 1 ≤ 70; omega) (by show S + 4 ≤ 460; omega) dL_changes_335 (fun a H hP hD hS => ?_)
    have hP := P_sw hP
    have hD := D_sw hD
    refine lv_dup hx hb dL_changes_338 rfl ?_
    refine oe_I (As := []) (rest := [.ref a, .ref at_]) (F := V) ⟨hx, hb, hml, hown, hts⟩ (c_J4_init_da8c8 l D y H.size a) (cwI 0 hts gL_changes_J4_init_da8c8 rfl rfl rfl (hts (.initialized RJ4) (List.mem_of_getElem? (i := 3) rfl)) (hts (.methodLink RL 264 yJ4_init_da8c8) (List.mem_of_getElem? (i := 370) rfl)) (hts (.instanceMethod yJ4_init_da8c8) (List.mem_of_getElem? (i := 371) rfl)) rfl (by decide +kernel) ⟨(Nat.le_of_ble_eq_true rfl), (Nat.le_of_ble_eq_true rfl)⟩) hK hP hD hS hA hJ rfl hl.1 rfl (Nat.le_of_ble_eq_true rfl) dL_changes_339 ⟨by show C + 1 + 1 ≤ 70; omega, by show S + 4 + 16 ≤ 460; omega⟩ (fun u0 H locs hP hD hS => ?_)
    obtain ⟨v0, hv0⟩ : ∃ z, u0 0 = z := ⟨_, rfl⟩
    rw [hv0] at hP hD
    have hP : va_P D vwCl ([(a, .inr (1, [.ref v0, .int 0, .int 0, .int (nI (0))])), (v0, .inl (y 2, 16, .inl (fun _ => 0)))] ++ V) H := hP
    have hD : va_D A ([(a, .inr (1, [.ref v0, .int 0, .int 0, .int (nI (0))])), (v0, .inl (y 2, 16, .inl (fun _ => 0)))] ++ V) := hD
    have hL0 : sb_Lat (fun _ => 0) 0 (fun _ => 0) := fun j hj => absurd hj (Nat.not_lt_zero j)
    have hF0 : sb_Fit (fun _ => 0) := sb_fit0
    refine va_ldcwS hx hb hown (hKS 0 _ rfl).1 dL_changes_342 ?_
    refine oe_Sr (As := [.ref (ad 0)]) (rest := [.ref at_]) (F := V) ⟨hx, hb, hml, hown, hts⟩ (c_J4_append_15ec4 l D y H.size (ad 0) 1 (fun j => ([43] : List Nat).getD j 0) a v0 (0) 16 0 (fun _ => 0) (fun _ => 0) (by decide) (by omega) (by omega) hL0 hF0) (cwV 1 hts gL_changes_J4_append_15ec4 rfl rfl rfl (by decide +kernel) ⟨(Nat.le_of_ble_eq_true rfl), (Nat.le_of_ble_eq_true rfl)⟩) hK hP hD hS hA hJ (hKS 0 _ rfl).2 rfl rfl rfl hl.1 rfl (Nat.le_of_ble_eq_true rfl) dL_changes_345 ⟨by show C + 1 + 1 + 0 ≤ 70; omega, by show S + 4 + 16 + 0 ≤ 460; omega⟩ (fun u1 H locs hu1 hP hD hS => ?_)
    obtain ⟨v1, b1⟩ := u1
    obtain ⟨hL1, hF1⟩ := hu1
    have hP : va_P D vwCl ([(a, .inr (1, [.ref v1, .int 0, .int 0, .int (nI (0 + 1))])), (v1, .inl (y 2, 16, .inl (b1)))] ++ V) H := hP
    have hD : va_D A ([(a, .inr (1, [.ref v1, .int 0, .int 0, .int (nI (0 + 1))])), (v1, .inl (y 2, 16, .inl (b1)))] ++ V) := hD
    have hL1 : sb_Lat (sb_cat (fun _ => 0) (0) (fun j => ([43] : List Nat).getD j 0)) (0 + 1) b1 := hL1
    refine lv_iload_n hx hb dL_changes_348 rfl (lv_at hl 1 rfl) ?_
    refine lv_iconst (v := 4) hx hb dL_changes_349 (by decide) ?_
    refine lv_ishr hx hb dL_changes_350 ?_
    refine lv_sipush (v := 1000) hx hb dL_changes_351 (by decide) ?_
    refine ow_Mi (As := [.int ((x) >>> (((4 : Int32)) &&& 31)), .int ((1000 : Int32))]) (rest := [.ref a, .ref at_]) (V := [(a, .inr (1, [.ref v1, .int 0, .int 0, .int (nI (0 + 1))])), (v1, .inl (y 2, 16, .inl (b1)))]) (E := V) ⟨hx, hb, hml, hown, hts⟩ (o_some l D y H.size ((x) >>> (((4 : Int32)) &&& 31)) 1000 (by decide) ([(a, .inr (1, [.ref v1, .int 0, .int 0, .int (nI (0 + 1))])), (v1, .inl (y 2, 16, .inl (b1)))])) (va_cwS 2 hts gL_changes_L_some rfl rfl rfl (by decide +kernel) ⟨(Nat.le_of_ble_eq_true rfl), (Nat.le_of_ble_eq_true rfl)⟩) hK hP hD hS hA hZ hN hJ rfl hl.1 rfl (Nat.le_of_ble_eq_true rfl) dL_changes_354 ⟨by show C + 1 + 1 + 0 + 0 ≤ 70; omega, by show S + 4 + 16 + 0 + 0 ≤ 460; omega⟩ (fun r9 V9 H locs h9 hP hD hS => ?_)
    obtain ⟨rfl, rfl⟩ := h9
    obtain ⟨k1, hk1, ek1⟩ := sm_lt (v := (x) >>> (((4 : Int32)) &&& 31)) (n := 1000) (by decide) (by decide)
    refine s1_is (z := nI k1) ek1 ?_
    have hdg2 := dg3 (k := k1) (hk1)
    refine oe_Vr (As := [.int (nI (k1))]) (rest := [.ref at_]) (F := V) ⟨hx, hb, hml, hown, hts⟩ (a_int l D y H.size a v1 (0 + 1) (k1) 0 (sb_cat (fun _ => 0) (0) (fun j => ([43] : List Nat).getD j 0)) (b1) (by omega) hL1 hF1 (hk1)) (cwV 1 hts gL_changes_J4_append_bf812 rfl rfl rfl (by decide +kernel) ⟨(Nat.le_of_ble_eq_true rfl), (Nat.le_of_ble_eq_true rfl)⟩) hK hP hD hS hA hJ rfl rfl rfl hl.1 rfl (Nat.le_of_ble_eq_true rfl) dL_changes_357 ⟨by show C + 1 + 1 + 0 + 0 + 0 ≤ 70; omega, by show S + 4 + 16 + 0 + 0 + 0 ≤ 460; omega⟩ (fun u2 H locs hu2 hP hD hS => ?_)
    obtain ⟨v2, b2⟩ := u2
    obtain ⟨hL2, hF2⟩ := hu2
    have hP : va_P D vwCl ([(a, .inr (1, [.ref v2, .int 0, .int 0, .int (nI (0 + 1 + sb_dg (k1)))])), (v2, .inl (y 2, 16, .inl (b2)))] ++ V) H := hP
    have hD : va_D A ([(a, .inr (1, [.ref v2, .int 0, .int 0, .int (nI (0 + 1 + sb_dg (k1)))])), (v2, .inl (y 2, 16, .inl (b2)))] ++ V) := hD
    have hL2 : sb_Lat (sb_cat (sb_cat (fun _ => 0) (0) (fun j => ([43] : List Nat).getD j 0)) (0 + 1) (sb_dec (k1))) (0 + 1 + sb_dg (k1)) b2 := hL2
    refine va_ldcwS hx hb hown (hKS 1 _ rfl).1 dL_changes_360 ?_
    refine oe_Sr (As := [.ref (ad 1)]) (rest := [.ref at_]) (F := V) ⟨hx, hb, hml, hown, hts⟩ (c_J4_append_15ec4 l D y H.size (ad 1) 1 (fun j => ([61] : List Nat).getD j 0) a v2 (0 + 1 + sb_dg (k1)) 16 0 (sb_cat (sb_cat (fun _ => 0) (0) (fun j => ([43] : List Nat).getD j 0)) (0 + 1) (sb_dec (k1))) (b2) (by decide) (by omega) (by omega) hL2 hF2) (cwV 1 hts gL_changes_J4_append_15ec4 rfl rfl rfl (by decide +kernel) ⟨(Nat.le_of_ble_eq_true rfl), (Nat.le_of_ble_eq_true rfl)⟩) hK hP hD hS hA hJ (hKS 1 _ rfl).2 rfl rfl rfl hl.1 rfl (Nat.le_of_ble_eq_true rfl) dL_changes_363 ⟨by show C + 1 + 1 + 0 + 0 + 0 + 0 ≤ 70; omega, by show S + 4 + 16 + 0 + 0 + 0 + 0 ≤ 460; omega⟩ (fun u3 H locs hu3 hP hD hS => ?_)
    obtain ⟨v3, b3⟩ := u3
    obtain ⟨hL3, hF3⟩ := hu3
    have hP : va_P D vwCl ([(a, .inr (1, [.ref v3, .int 0, .int 0, .int (nI (0 + 1 + sb_dg (k1) + 1))])), (v3, .inl (y 2, 16, .inl (b3)))] ++ V) H := hP
    have hD : va_D A ([(a, .inr (1, [.ref v3, .int 0, .int 0, .int (nI (0 + 1 + sb_dg (k1) + 1))])), (v3, .inl (y 2, 16, .inl (b3)))] ++ V) := hD
    have hL3 : sb_Lat (sb_cat (sb_cat (sb_cat (fun _ => 0) (0) (fun j => ([43] : List Nat).getD j 0)) (0 + 1) (sb_dec (k1))) (0 + 1 + sb_dg (k1)) (fun j => ([61] : List Nat).getD j 0)) (0 + 1 + sb_dg (k1) + 1) b3 := hL3
    refine lv_iload_n hx hb dL_changes_366 rfl (lv_at hl 1 rfl) ?_
    refine lv_bipush (v := 8) hx hb dL_changes_367 (by decide) ?_
    refine lv_ishr hx hb dL_changes_369 ?_
    refine lv_bipush (v := 100) hx hb dL_changes_370 (by decide) ?_
    refine ow_Mi (As := [.int ((x) >>> (((8 : Int32)) &&& 31)), .int ((100 : Int32))]) (rest := [.ref a, .ref at_]) (V := [(a, .inr (1, [.ref v3, .int 0, .int 0, .int (nI (0 + 1 + sb_dg (k1) + 1))])), (v3, .inl (y 2, 16, .inl (b3)))]) (E := V) ⟨hx, hb, hml, hown, hts⟩ (o_some l D y H.size ((x) >>> (((8 : Int32)) &&& 31)) 100 (by decide) ([(a, .inr (1, [.ref v3, .int 0, .int 0, .int (nI (0 + 1 + sb_dg (k1) + 1))])), (v3, .inl (y 2, 16, .inl (b3)))])) (va_cwS 2 hts gL_changes_L_some rfl rfl rfl (by decide +kernel) ⟨(Nat.le_of_ble_eq_true rfl), (Nat.le_of_ble_eq_true rfl)⟩) hK hP hD hS hA hZ hN hJ rfl hl.1 rfl (Nat.le_of_ble_eq_true rfl) dL_changes_372 ⟨by show C + 1 + 1 + 0 + 0 + 0 + 0 + 0 ≤ 70; omega, by show S + 4 + 16 + 0 + 0 + 0 + 0 + 0 ≤ 460; omega⟩ (fun r9 V9 H locs h9 hP hD hS => ?_)
    obtain ⟨rfl, rfl⟩ := h9
    obtain ⟨k2, hk2, ek2⟩ := sm_lt (v := (x) >>> (((8 : Int32)) &&& 31)) (n := 100) (by decide) (by decide)
    refine s1_is (z := nI k2) ek2 ?_
    have hdg4 := dg3 (k := k2) (by omega)
    refine oe_Vr (As := [.int (nI (k2))]) (rest := [.ref at_]) (F := V) ⟨hx, hb, hml, hown, hts⟩ (a_int l D y H.size a v3 (0 + 1 + sb_dg (k1) + 1) (k2) 0 (sb_cat (sb_cat (sb_cat (fun _ => 0) (0) (fun j => ([43] : List Nat).getD j 0)) (0 + 1) (sb_dec (k1))) (0 + 1 + sb_dg (k1)) (fun j => ([61] : List Nat).getD j 0)) (b3) (by omega) hL3 hF3 (by omega)) (cwV 1 hts gL_changes_J4_append_bf812 rfl rfl rfl (by decide +kernel) ⟨(Nat.le_of_ble_eq_true rfl), (Nat.le_of_ble_eq_true rfl)⟩) hK hP hD hS hA hJ rfl rfl rfl hl.1 rfl (Nat.le_of_ble_eq_true rfl) dL_changes_375 ⟨by show C + 1 + 1 + 0 + 0 + 0 + 0 + 0 + 0 ≤ 70; omega, by show S + 4 + 16 + 0 + 0 + 0 + 0 + 0 + 0 ≤ 460; omega⟩ (fun u4 H locs hu4 hP hD hS => ?_)
    obtain ⟨v4, b4⟩ := u4
    obtain ⟨hL4, hF4⟩ := hu4
    have hP : va_P D vwCl ([(a, .inr (1, [.ref v4, .int 0, .int 0, .int (nI (0 + 1 + sb_dg (k1) + 1 + sb_dg (k2)))])), (v4, .inl (y 2, 16, .inl (b4)))] ++ V) H := hP
    have hD : va_D A ([(a, .inr (1, [.ref v4, .int 0, .int 0, .int (nI (0 + 1 + sb_dg (k1) + 1 + sb_dg (k2)))])), (v4, .inl (y 2, 16, .inl (b4)))] ++ V) := hD
    have hL4 : sb_Lat (sb_cat (sb_cat (sb_cat (sb_cat (fun _ => 0) (0) (fun j => ([43] : List Nat).getD j 0)) (0 + 1) (sb_dec (k1))) (0 + 1 + sb_dg (k1)) (fun j => ([61] : List Nat).getD j 0)) (0 + 1 + sb_dg (k1) + 1) (sb_dec (k2))) (0 + 1 + sb_dg (k1) + 1 + sb_dg (k2)) b4 := hL4
    refine va_ldcwS hx hb hown (hKS 2 _ rfl).1 dL_changes_378 ?_
    refine oe_Sr (As := [.ref (ad 2)]) (rest := [.ref at_]) (F := V) ⟨hx, hb, hml, hown, hts⟩ (c_J4_append_15ec4 l D y H.size (ad 2) 2 (fun j => ([59, 116] : List Nat).getD j 0) a v4 (0 + 1 + sb_dg (k1) + 1 + sb_dg (k2)) 16 0 (sb_cat (sb_cat (sb_cat (sb_cat (fun _ => 0) (0) (fun j => ([43] : List Nat).getD j 0)) (0 + 1) (sb_dec (k1))) (0 + 1 + sb_dg (k1)) (fun j => ([61] : List Nat).getD j 0)) (0 + 1 + sb_dg (k1) + 1) (sb_dec (k2))) (b4) (by decide) (by omega) (by omega) hL4 hF4) (cwV 1 hts gL_changes_J4_append_15ec4 rfl rfl rfl (by decide +kernel) ⟨(Nat.le_of_ble_eq_true rfl), (Nat.le_of_ble_eq_true rfl)⟩) hK hP hD hS hA hJ (hKS 2 _ rfl).2 rfl rfl rfl hl.1 rfl (Nat.le_of_ble_eq_true rfl) dL_changes_381 ⟨by show C + 1 + 1 + 0 + 0 + 0 + 0 + 0 + 0 + 0 ≤ 70; omega, by show S + 4 + 16 + 0 + 0 + 0 + 0 + 0 + 0 + 0 ≤ 460; omega⟩ (fun u5 H locs hu5 hP hD hS => ?_)
    obtain ⟨v5, b5⟩ := u5
    obtain ⟨hL5, hF5⟩ := hu5
    have hP : va_P D vwCl ([(a, .inr (1, [.ref v5, .int 0, .int 0, .int (nI (0 + 1 + sb_dg (k1) + 1 + sb_dg (k2) + 2))])), (v5, .inl (y 2, 16, .inl (b5)))] ++ V) H := hP
    have hD : va_D A ([(a, .inr (1, [.ref v5, .int 0, .int 0, .int (nI (0 + 1 + sb_dg (k1) + 1 + sb_dg (k2) + 2))])), (v5, .inl (y 2, 16, .inl (b5)))] ++ V) := hD
    have hL5 : sb_Lat (sb_cat (sb_cat (sb_cat (sb_cat (sb_cat (fun _ => 0) (0) (fun j => ([43] : List Nat).getD j 0)) (0 + 1) (sb_dec (k1))) (0 + 1 + sb_dg (k1)) (fun j => ([61] : List Nat).getD j 0)) (0 + 1 + sb_dg (k1) + 1) (sb_dec (k2))) (0 + 1 + sb_dg (k1) + 1 + sb_dg (k2)) (fun j => ([59, 116] : List Nat).getD j 0)) (0 + 1 + sb_dg (k1) + 1 + sb_dg (k2) + 2) b5 := hL5
    refine oe_Vr (As := []) (rest := [.ref at_]) (F := V) ⟨hx, hb, hml, hown, hts⟩ (c_J4_toString_0e30d l D y H.size a v5 (0 + 1 + sb_dg (k1) + 1 + sb_dg (k2) + 2) 16 0 (b5) (by omega) (by decide) hF5) (cwV 0 hts gL_changes_J4_toString_0e30d rfl rfl rfl (by decide +kernel) ⟨(Nat.le_of_ble_eq_true rfl), (Nat.le_of_ble_eq_true rfl)⟩) hK hP hD hS hA hJ rfl rfl rfl hl.1 rfl (Nat.le_of_ble_eq_true rfl) dL_changes_384 ⟨by show C + 1 + 1 + 0 + 0 + 0 + 0 + 0 + 0 + 0 + 2 ≤ 70; omega, by show S + 4 + 16 + 0 + 0 + 0 + 0 + 0 + 0 + 0 + (0 + 1 + sb_dg (k1) + 1 + sb_dg (k2) + 2 + 4) ≤ 460; omega⟩ (fun us9 H locs hus hP hD hS => ?_)
    obtain ⟨sa, tv, bs9⟩ := us9
    have hP : va_P D vwCl (V ++ [(a, .inr (1, [.ref v5, .int 0, .int 0, .int (nI (0 + 1 + sb_dg (k1) + 1 + sb_dg (k2) + 2))])), (v5, .inl (y 2, 16, .inl (b5))), (sa, .inr (0, [.ref tv, .int 0, .int 0, .int 0])), (tv, .inl (y 2, 0 + 1 + sb_dg (k1) + 1 + sb_dg (k2) + 2, .inl bs9))]) H := P_sw hP
    have hD : va_D A (V ++ [(a, .inr (1, [.ref v5, .int 0, .int 0, .int (nI (0 + 1 + sb_dg (k1) + 1 + sb_dg (k2) + 2))])), (v5, .inl (y 2, 16, .inl (b5))), (sa, .inr (0, [.ref tv, .int 0, .int 0, .int 0])), (tv, .inl (y 2, 0 + 1 + sb_dg (k1) + 1 + sb_dg (k2) + 2, .inl bs9))]) := D_sw hD
    refine lv_goto (tgt := 439) hx hb dL_changes_387 (by decide) ?_
    refine ow_Rd (As := [.ref at_, .ref sa]) (rest := []) (V := V) (E := [(a, .inr (1, [.ref v5, .int 0, .int 0, .int (nI (0 + 1 + sb_dg (k1) + 1 + sb_dg (k2) + 2))])), (v5, .inl (y 2, 16, .inl (b5))), (sa, .inr (0, [.ref tv, .int 0, .int 0, .int 0])), (tv, .inl (y 2, 0 + 1 + sb_dg (k1) + 1 + sb_dg (k2) + 2, .inl bs9))]) ⟨hx, hb, hml, hown, hts⟩ (oL_reads l hst D y H.size at_ V sa (0 + 1 + sb_dg (k1) + 1 + sb_dg (k2) + 2) (sb_cat (sb_cat (sb_cat (sb_cat (sb_cat (fun _ => 0) (0) (fun j => ([43] : List Nat).getD j 0)) (0 + 1) (sb_dec (k1))) (0 + 1 + sb_dg (k1)) (fun j => ([61] : List Nat).getD j 0)) (0 + 1 + sb_dg (k1) + 1) (sb_dec (k2))) (0 + 1 + sb_dg (k1) + 1 + sb_dg (k2)) (fun j => ([59, 116] : List Nat).getD j 0)) (by omega) hO) (va_cwS 2 hts gL_changes_L_reads rfl rfl rfl (by decide +kernel) ⟨(Nat.le_of_ble_eq_true rfl), (Nat.le_of_ble_eq_true rfl)⟩) hK hP hD hS hA hZ hN hJ (fun U hW => (strC_of hts iL_changes_J0 hK hP hD 2 3 rfl rfl (fun k hk => ⟨(hL5 k hk).1, (hus k hk).trans (hL5 k hk).2⟩)).moved hW.alike) rfl hl.1 rfl (Nat.le_of_ble_eq_true rfl) dL_changes_439 ⟨by show C + 1 + 1 + 0 + 0 + 0 + 0 + 0 + 0 + 0 + 2 + 62 ≤ 70; omega, by show S + 4 + 16 + 0 + 0 + 0 + 0 + 0 + 0 + 0 + (0 + 1 + sb_dg (k1) + 1 + sb_dg (k2) + 2 + 4) + 400 ≤ 460; omega⟩ (fun r9 V H locs h9 hP hD hS => ?_)
    rcases h9 with ⟨x9, -, h9r, hO⟩ | ⟨-, v9, rs2, dt2, ix2, -, ⟨-, h9r, hO⟩ | ⟨h9r, hv9, q2, hG2, hO⟩⟩
    · refine lv_if_lt (tgt := 449) hx hb dL_changes_442 (by decide) (fun _ => ?_) (fun h9 => absurd (by rw [h9r]; decide) h9)
      refine lv_iconst (v := 0) hx hb dL_changes_449 (by decide) ?_
      refine W.widen (k := 70) (n := 460) (by omega) (by omega) ?_
      exact omret_z hx hb hr rfl hlocks hAe hK hP hD hS (Or.inr ⟨rfl, _, _, _, _, _, _, _, hO⟩) dL_changes_450
    · refine lv_if_lt (tgt := 449) hx hb dL_changes_442 (by decide) (fun _ => ?_) (fun h9 => absurd (by rw [h9r]; decide) h9)
      refine lv_iconst (v := 0) hx hb dL_changes_449 (by decide) ?_
      refine W.widen (k := 70) (n := 460) (by omega) (by omega) ?_
      exact omret_z hx hb hr rfl hlocks hAe hK hP hD hS (Or.inr ⟨rfl, _, _, _, _, _, _, _, hO⟩) dL_changes_450
    · refine lv_if_lt (tgt := 449) hx hb dL_changes_442 (by decide) (fun h9 => absurd h9 (by rw [h9r]; exact Int32.not_lt.mpr hv9)) (fun _ => ?_)
      refine lv_iconst (v := 1) hx hb dL_changes_445 (by decide) ?_
      refine lv_goto (tgt := 450) hx hb dL_changes_446 (by decide) ?_
      refine W.widen (k := 70) (n := 460) (by omega) (by omega) ?_
      exact omret_z hx hb hr rfl hlocks hAe hK hP hD hS (Or.inl ⟨rfl, _, _, _, _, _, _, _, _, hG2, hO⟩) dL_changes_450
set_option maxHeartbeats 4000000 in
set_option maxRecDepth 100000 in
theorem ch_46 {p : Program} {l : Launch} {e : Env} {s : State} {mi : MethodId} {args : Array Value} {below : List Frame} {meth : Method} {c : Code} {D : va_G} {y : Nat → ClassId} {A : Nat → Prop} {at_ : Nat}{q : Lad} {us : List Lad} {sv : Option Lad} {rs dt ix lf : Int32} {tx : Nat → Int32} {ad : Nat → Nat} {V0 : va_W} (hst : l.stackTraces = false) (C0 : mC p l c mi s args D y A cL_changes 4 wsL_changes) (hKS : kS ad A s s.heap) (hr : meth.sig.returnType = some .boolean) (hlocks : meth.locks = false) (hAe : va_A V0 s.heap.size = A) {x key : Int32} (m9 : Nat) (hm9 : m9 < 2 ^ 31) (hk9 : (if 0 ≤ key then key else 0 - key) = nI m9) : mW p l e (rmx 16 520 70 460) s mi args below meth c D y A at_ q us sv rs dt ix lf 0 tx (anyT) [] (MQ below (oQi D y 0 (chR y at_ q us sv) V0 s.heap.size) args s 70 460 (va_A V0 s.heap.size)) 4 46 [(0, .ref at_), (1, .int (x)), (3, .int (key))] (2) (12) := by
  have C1 := C0
  obtain ⟨hx, hb, hml, hown, hts, hK, hA, hZ, hN, hJ, -⟩ := C1
  intro C S hC hS9 V NN TT hPT hO H locs hP hD hS ls hl
  refine lv_iload_n hx hb dL_changes_46 rfl (lv_at hl 1 rfl) ?_
  refine lv_bipush (v := 18) hx hb dL_changes_47 (by decide) ?_
  refine ow_Mi (As := [.int (x), .int ((18 : Int32))]) (rest := []) ⟨hx, hb, hml, hown, hts⟩ (o_some l D y H.size (x) 18 (by decide) V) (va_cwS 2 hts gL_changes_L_some rfl rfl rfl (by decide +kernel) ⟨(Nat.le_of_ble_eq_true rfl), (Nat.le_of_ble_eq_true rfl)⟩) hK hP hD hS hA hZ hN hJ rfl hl.1 rfl (Nat.le_of_ble_eq_true rfl) dL_changes_49 ⟨by show C + 0 ≤ 70; omega, by show S + 0 ≤ 460; omega⟩ (fun r9 V H locs h9 hP hD hS => ?_)
  obtain ⟨rfl, hV9⟩ := h9; have hO := Ob_eq hV9 hO
  obtain ⟨k18, hk18, ek18⟩ := sm_lt (v := x) (n := 18) (by decide) (by decide)
  refine s1_is (z := nI k18) ek18 ?_
  rcases (show k18 = 0 ∨ k18 = 1 ∨ k18 = 2 ∨ k18 = 3 ∨ k18 = 4 ∨ k18 = 5 ∨ k18 = 6 ∨ k18 = 7 ∨ k18 = 8 ∨ k18 = 9 ∨ k18 = 10 ∨ k18 = 11 ∨ k18 = 12 ∨ k18 = 13 ∨ k18 = 14 ∨ k18 = 15 ∨ k18 = 16 ∨ k18 = 17 by omega) with rfl | rfl | rfl | rfl | rfl | rfl | rfl | rfl | rfl | rfl | rfl | rfl | rfl | rfl | rfl | rfl | rfl | rfl
  · refine lv_tableIn (off := 76) (tgt := 128) hx hb dL_changes_52 (by decide) (by decide) rfl rfl ?_
    exact (ch_128 hst C0 hKS hr hlocks hAe) _ _ (by omega) (by omega) _ _ _ (trivial) hO H locs hP hD hS ls (lv_sub hl [0, 1, 2] rfl)
  · refine lv_tableIn (off := 76) (tgt := 128) hx hb dL_changes_52 (by decide) (by decide) rfl rfl ?_
    exact (ch_128 hst C0 hKS hr hlocks hAe) _ _ (by omega) (by omega) _ _ _ (trivial) hO H locs hP hD hS ls (lv_sub hl [0, 1, 2] rfl)
  · refine lv_tableIn (off := 76) (tgt := 128) hx hb dL_changes_52 (by decide) (by decide) rfl rfl ?_
    exact (ch_128 hst C0 hKS hr hlocks hAe) _ _ (by omega) (by omega) _ _ _ (trivial) hO H locs hP hD hS ls (lv_sub hl [0, 1, 2] rfl)
  · refine lv_tableIn (off := 111) (tgt := 163) hx hb dL_changes_52 (by decide) (by decide) rfl rfl ?_
    exact (ch_163 hst C0 hKS hr hlocks hAe) _ _ (by omega) (by omega) _ _ _ (trivial) hO H locs hP hD hS ls (lv_sub hl [0, 1, 2] rfl)
  · refine lv_tableIn (off := 111) (tgt := 163) hx hb dL_changes_52 (by decide) (by decide) rfl rfl ?_
    exact (ch_163 hst C0 hKS hr hlocks hAe) _ _ (by omega) (by omega) _ _ _ (trivial) hO H locs hP hD hS ls (lv_sub hl [0, 1, 2] rfl)
  · refine lv_tableIn (off := 151) (tgt := 203) hx hb dL_changes_52 (by decide) (by decide) rfl rfl ?_
    exact (ch_203 hst C0 hKS hr hlocks hAe) _ _ (by omega) (by omega) _ _ _ (trivial) hO H locs hP hD hS ls (lv_sub hl [0, 1, 2] rfl)
  · refine lv_tableIn (off := 165) (tgt := 217) hx hb dL_changes_52 (by decide) (by decide) rfl rfl ?_
    exact (ch_217 hst C0 hKS hr hlocks hAe) _ _ (by omega) (by omega) _ _ _ (trivial) hO H locs hP hD hS ls (lv_sub hl [0, 1, 2] rfl)
  · refine lv_tableIn (off := 165) (tgt := 217) hx hb dL_changes_52 (by decide) (by decide) rfl rfl ?_
    exact (ch_217 hst C0 hKS hr hlocks hAe) _ _ (by omega) (by omega) _ _ _ (trivial) hO H locs hP hD hS ls (lv_sub hl [0, 1, 2] rfl)
  · refine lv_tableIn (off := 179) (tgt := 231) hx hb dL_changes_52 (by decide) (by decide) rfl rfl ?_
    exact (ch_231 hst C0 hKS hr hlocks hAe) _ _ (by omega) (by omega) _ _ _ (trivial) hO H locs hP hD hS ls (lv_sub hl [0, 1, 2] rfl)
  · refine lv_tableIn (off := 193) (tgt := 245) hx hb dL_changes_52 (by decide) (by decide) rfl rfl ?_
    exact (ch_245 hst C0 hKS hr hlocks hAe) _ _ (by omega) (by omega) _ _ _ (trivial) hO H locs hP hD hS ls (lv_sub hl [0, 1, 2] rfl)
  · refine lv_tableIn (off := 193) (tgt := 245) hx hb dL_changes_52 (by decide) (by decide) rfl rfl ?_
    exact (ch_245 hst C0 hKS hr hlocks hAe) _ _ (by omega) (by omega) _ _ _ (trivial) hO H locs hP hD hS ls (lv_sub hl [0, 1, 2] rfl)
  · refine lv_tableIn (off := 214) (tgt := 266) hx hb dL_changes_52 (by decide) (by decide) rfl rfl ?_
    exact (ch_266 hst C0 hKS hr hlocks hAe) _ _ (by omega) (by omega) _ _ _ (trivial) hO H locs hP hD hS ls (lv_sub hl [0, 1, 2] rfl)
  · refine lv_tableIn (off := 214) (tgt := 266) hx hb dL_changes_52 (by decide) (by decide) rfl rfl ?_
    exact (ch_266 hst C0 hKS hr hlocks hAe) _ _ (by omega) (by omega) _ _ _ (trivial) hO H locs hP hD hS ls (lv_sub hl [0, 1, 2] rfl)
  · refine lv_tableIn (off := 235) (tgt := 287) hx hb dL_changes_52 (by decide) (by decide) rfl rfl ?_
    exact (ch_287 hst C0 hKS hr hlocks hAe) _ _ (by omega) (by omega) _ _ _ (trivial) hO H locs hP hD hS ls (lv_sub hl [0, 1, 2] rfl)
  · refine lv_tableIn (off := 260) (tgt := 312) hx hb dL_changes_52 (by decide) (by decide) rfl rfl ?_
    exact (ch_312 hst C0 hKS hr hlocks hAe) _ _ (by omega) (by omega) _ _ _ (trivial) hO H locs hP hD hS ls (lv_sub hl [0, 1, 2] rfl)
  · refine lv_tableOut (tgt := 325) hx hb dL_changes_52 (by decide) rfl ?_
    exact (ch_325 hst C0 hKS hr hlocks hAe m9 hm9 hk9) _ _ (by omega) (by omega) _ _ _ (trivial) hO H locs hP hD hS ls (lv_sub hl [0, 1, 2] rfl)
  · refine lv_tableOut (tgt := 325) hx hb dL_changes_52 (by decide) rfl ?_
    exact (ch_325 hst C0 hKS hr hlocks hAe m9 hm9 hk9) _ _ (by omega) (by omega) _ _ _ (trivial) hO H locs hP hD hS ls (lv_sub hl [0, 1, 2] rfl)
  · refine lv_tableOut (tgt := 325) hx hb dL_changes_52 (by decide) rfl ?_
    exact (ch_325 hst C0 hKS hr hlocks hAe m9 hm9 hk9) _ _ (by omega) (by omega) _ _ _ (trivial) hO H locs hP hD hS ls (lv_sub hl [0, 1, 2] rfl)
set_option maxHeartbeats 4000000 in
set_option maxRecDepth 100000 in
theorem ch_0 {p : Program} {l : Launch} {e : Env} {s : State} {mi : MethodId} {args : Array Value} {below : List Frame} {meth : Method} {c : Code} {D : va_G} {y : Nat → ClassId} {A : Nat → Prop} {at_ : Nat}{q : Lad} {us : List Lad} {sv : Option Lad} {rs dt ix lf : Int32} {tx : Nat → Int32} {ad : Nat → Nat} {V0 : va_W} (hst : l.stackTraces = false) (C0 : mC p l c mi s args D y A cL_changes 4 wsL_changes) (hKS : kS ad A s s.heap) (hr : meth.sig.returnType = some .boolean) (hlocks : meth.locks = false) (hAe : va_A V0 s.heap.size = A) {x : Int32} : mW p l e (rmx 16 520 70 460) s mi args below meth c D y A at_ q us sv rs dt ix lf 0 tx (anyT) [] (MQ below (oQi D y 0 (chR y at_ q us sv) V0 s.heap.size) args s 70 460 (va_A V0 s.heap.size)) 4 0 [(0, .ref at_), (1, .int (x))] (0) (0) := by
  have C1 := C0
  obtain ⟨hx, hb, hml, hown, hts, hK, hA, hZ, hN, hJ, -⟩ := C1
  intro C S hC hS9 V NN TT hPT hO H locs hP hD hS ls hl
  have hG := Ob_GL hO
  obtain ⟨n9, hn24, hn9, -⟩ := GL_n hG
  refine lv_aload_n hx hb dL_changes_0 rfl (lv_at hl 0 rfl) ?_
  refine lv_iconst (v := 0) hx hb dL_changes_1 (by decide) ?_
  refine ow_Si (As := [.ref at_, .int ((0 : Int32))]) (rest := []) ⟨hx, hb, hml, hown, hts⟩ (oL_account l hst D y H.size at_ V 0 hO) (vx_cwSW 2 hts gL_changes_L_account rfl rfl rfl (by decide +kernel) ⟨(Nat.le_of_ble_eq_true rfl), (Nat.le_of_ble_eq_true rfl)⟩) hK hP hD hS hA hZ hN hJ rfl hl.1 rfl (Nat.le_of_ble_eq_true rfl) dL_changes_2 ⟨by show C + 1 ≤ 70; omega, by show S + 6 ≤ 460; omega⟩ (fun r9 V H locs h9 hP hD hS => ?_)
  obtain ⟨rfl, hO⟩ := h9
  refine s1_is (z := nI n9) (acc_0.trans hn9) ?_
  refine lv_istore_n (lv' := [(2, .int (nI n9)), (0, .ref at_), (1, .int (x))]) hx hb dL_changes_5 rfl hl (by decide) rfl (fun ls hl => ?_)
  refine lv_iload_n hx hb dL_changes_6 rfl (lv_at hl 0 rfl) ?_
  refine lv_if_eq (tgt := 18) hx hb dL_changes_7 (by decide) (fun c1 => ?_) (fun c1 => ?_)
  · refine lv_iload_n hx hb dL_changes_18 rfl (lv_at hl 2 rfl) ?_
    refine lv_bipush (v := 6) hx hb dL_changes_19 (by decide) ?_
    refine lv_ishr hx hb dL_changes_21 ?_
    refine lv_sipush (v := 1002) hx hb dL_changes_22 (by decide) ?_
    refine ow_Mi (As := [.int ((x) >>> (((6 : Int32)) &&& 31)), .int ((1002 : Int32))]) (rest := []) ⟨hx, hb, hml, hown, hts⟩ (o_some l D y H.size ((x) >>> (((6 : Int32)) &&& 31)) 1002 (by decide) V) (va_cwS 2 hts gL_changes_L_some rfl rfl rfl (by decide +kernel) ⟨(Nat.le_of_ble_eq_true rfl), (Nat.le_of_ble_eq_true rfl)⟩) hK hP hD hS hA hZ hN hJ rfl hl.1 rfl (Nat.le_of_ble_eq_true rfl) dL_changes_25 ⟨by show C + 1 + 0 ≤ 70; omega, by show S + 6 + 0 ≤ 460; omega⟩ (fun r9 V H locs h9 hP hD hS => ?_)
    obtain ⟨rfl, hV9⟩ := h9; have hO := Ob_eq hV9 hO
    obtain ⟨k1, hk1, ek1⟩ := sm_lt (v := (x) >>> (((6 : Int32)) &&& 31)) (n := 1002) (by decide) (by decide)
    refine s1_is (z := nI k1) ek1 ?_
    refine lv_iconst (v := 1) hx hb dL_changes_28 (by decide) ?_
    refine lv_isub hx hb dL_changes_29 ?_
    refine lv_goto (tgt := 45) hx hb dL_changes_30 (by decide) ?_
    refine lv_istore_n (lv' := [(3, .int ((nI k1) - ((1 : Int32)))), (2, .int (nI n9)), (0, .ref at_), (1, .int (x))]) hx hb dL_changes_45 rfl hl (by decide) rfl (fun ls hl => ?_)
    obtain ⟨m9, hm9, hk9⟩ := ka_1 hk1
    exact (ch_46 hst C0 hKS hr hlocks hAe m9 hm9 hk9) _ _ (by omega) (by omega) _ _ _ (trivial) hO H locs hP hD hS ls (lv_sub hl [2, 3, 0] rfl)
  · refine lv_iload_n hx hb dL_changes_10 rfl (lv_at hl 2 rfl) ?_
    refine lv_iconst (v := 5) hx hb dL_changes_11 (by decide) ?_
    refine lv_ishr hx hb dL_changes_12 ?_
    refine lv_iconst (v := 3) hx hb dL_changes_13 (by decide) ?_
    refine lv_iand hx hb dL_changes_14 ?_
    refine lv_if_ne (tgt := 33) hx hb dL_changes_15 (by decide) (fun c2 => ?_) (fun c2 => ?_)
    · refine lv_aload_n hx hb dL_changes_33 rfl (lv_at hl 1 rfl) ?_
      refine lv_iload_n hx hb dL_changes_34 rfl (lv_at hl 2 rfl) ?_
      refine lv_bipush (v := 6) hx hb dL_changes_35 (by decide) ?_
      refine lv_ishr hx hb dL_changes_37 ?_
      refine lv_iload_n hx hb dL_changes_38 rfl (lv_at hl 0 rfl) ?_
      have hz : ¬ nI n9 = 0 := c1
      have hz2 : 0 < n9 := Nat.pos_of_ne_zero (fun h => hz (by rw [h]; rfl))
      refine ow_Mi (As := [.int ((x) >>> (((6 : Int32)) &&& 31)), .int (nI n9)]) (rest := [.ref at_]) ⟨hx, hb, hml, hown, hts⟩ (o_some l D y H.size ((x) >>> (((6 : Int32)) &&& 31)) (nI n9) hz V) (va_cwS 2 hts gL_changes_L_some rfl rfl rfl (by decide +kernel) ⟨(Nat.le_of_ble_eq_true rfl), (Nat.le_of_ble_eq_true rfl)⟩) hK hP hD hS hA hZ hN hJ rfl hl.1 rfl (Nat.le_of_ble_eq_true rfl) dL_changes_39 ⟨by show C + 1 + 0 ≤ 70; omega, by show S + 6 + 0 ≤ 460; omega⟩ (fun r9 V H locs h9 hP hD hS => ?_)
      obtain ⟨rfl, hV9⟩ := h9; have hO := Ob_eq hV9 hO
      obtain ⟨k2, hk2, ek2⟩ := sm_lt (v := (x) >>> (((6 : Int32)) &&& 31)) (n := n9) hz2 (by omega)
      refine s1_is (z := nI k2) ek2 ?_
      refine ow_Si (As := [.ref at_, .int (nI k2)]) (rest := []) ⟨hx, hb, hml, hown, hts⟩ (oL_keyAt l hst D y H.size at_ V (nI k2) hO) (vx_cwSW 2 hts gL_changes_L_keyAt rfl rfl rfl (by decide +kernel) ⟨(Nat.le_of_ble_eq_true rfl), (Nat.le_of_ble_eq_true rfl)⟩) hK hP hD hS hA hZ hN hJ rfl hl.1 rfl (Nat.le_of_ble_eq_true rfl) dL_changes_42 ⟨by show C + 1 + 0 + 1 ≤ 70; omega, by show S + 6 + 0 + 6 ≤ 460; omega⟩ (fun r9 V H locs h9 hP hD hS => ?_)
      obtain ⟨rfl, hO⟩ := h9
      refine lv_istore_n (lv' := [(3, .int ((lq_keyAt q (nI k2)))), (2, .int (nI n9)), (0, .ref at_), (1, .int (x))]) hx hb dL_changes_45 rfl hl (by decide) rfl (fun ls hl => ?_)
      obtain ⟨m9, hm9, hk9⟩ := ka_2 hG hn24 hn9 hk2
      exact (ch_46 hst C0 hKS hr hlocks hAe m9 hm9 hk9) _ _ (by omega) (by omega) _ _ _ (trivial) hO H locs hP hD hS ls (lv_sub hl [2, 3, 0] rfl)
    · refine lv_iload_n hx hb dL_changes_18 rfl (lv_at hl 2 rfl) ?_
      refine lv_bipush (v := 6) hx hb dL_changes_19 (by decide) ?_
      refine lv_ishr hx hb dL_changes_21 ?_
      refine lv_sipush (v := 1002) hx hb dL_changes_22 (by decide) ?_
      refine ow_Mi (As := [.int ((x) >>> (((6 : Int32)) &&& 31)), .int ((1002 : Int32))]) (rest := []) ⟨hx, hb, hml, hown, hts⟩ (o_some l D y H.size ((x) >>> (((6 : Int32)) &&& 31)) 1002 (by decide) V) (va_cwS 2 hts gL_changes_L_some rfl rfl rfl (by decide +kernel) ⟨(Nat.le_of_ble_eq_true rfl), (Nat.le_of_ble_eq_true rfl)⟩) hK hP hD hS hA hZ hN hJ rfl hl.1 rfl (Nat.le_of_ble_eq_true rfl) dL_changes_25 ⟨by show C + 1 + 0 ≤ 70; omega, by show S + 6 + 0 ≤ 460; omega⟩ (fun r9 V H locs h9 hP hD hS => ?_)
      obtain ⟨rfl, hV9⟩ := h9; have hO := Ob_eq hV9 hO
      obtain ⟨k1, hk1, ek1⟩ := sm_lt (v := (x) >>> (((6 : Int32)) &&& 31)) (n := 1002) (by decide) (by decide)
      refine s1_is (z := nI k1) ek1 ?_
      refine lv_iconst (v := 1) hx hb dL_changes_28 (by decide) ?_
      refine lv_isub hx hb dL_changes_29 ?_
      refine lv_goto (tgt := 45) hx hb dL_changes_30 (by decide) ?_
      refine lv_istore_n (lv' := [(3, .int ((nI k1) - ((1 : Int32)))), (2, .int (nI n9)), (0, .ref at_), (1, .int (x))]) hx hb dL_changes_45 rfl hl (by decide) rfl (fun ls hl => ?_)
      obtain ⟨m9, hm9, hk9⟩ := ka_1 hk1
      exact (ch_46 hst C0 hKS hr hlocks hAe m9 hm9 hk9) _ _ (by omega) (by omega) _ _ _ (trivial) hO H locs hP hD hS ls (lv_sub hl [2, 3, 0] rfl)
set_option maxHeartbeats 4000000 in
set_option maxRecDepth 100000 in
theorem oL_changes (l : Launch) (hst : l.stackTraces = false) (D : va_G) (y : Nat → ClassId) (sz at_ : Nat) {q : Lad} {us : List Lad} {sv : Option Lad} {rs dt ix lf : Int32} {tx : Nat → Int32} {NN : Nat} {TT : Nat → Nat} (V : va_W) (ad : Nat → Nat) (x : Int32) (hO : Ob y at_ q us sv rs dt ix lf 0 tx NN TT V) : Met l yL_changes wsL_changes (rmx 16 520 70 460) (klP D y V sz [.ref at_, .int x] ad) (oQi D y 0 (chR y at_ q us sv) V sz) 70 460 (va_A V sz) := by
  refine Met.ofW (cc := cL_changes) (maxL := 4) (ret := (some .boolean)) (by decide) rfl ?_
  intro p e s mi args below meth c s₁ B hml hv
  obtain ⟨hav, hsz, hP, hK, hD0, hZ, hN, hJ, hKS⟩ := hv
  have hx := B.exec
  have hb := B.bytes
  have hr := B.returns
  have hts := atoms_spec (ws := wsL_changes) B.pre
  have hown : s.vm.findClass RL = some mi.cls := findClass_of_methodNamed B.named
  have hlocks := B.notSynchronized
  subst hsz
  have hD := hD0.self (sz := s.heap.size)
  obtain ⟨A, hAe⟩ : ∃ A : Nat → Prop, va_A V s.heap.size = A := ⟨_, rfl⟩
  rw [hAe] at hD hZ hJ hKS
  have hA : ∀ q, s.heap.size ≤ q → A q := fun q h => by rw [← hAe]; exact Or.inr h
  have hS : va_S A s.heap s.heap [] := va_S.rf
  have hP : va_P D vwCl (V ++ []) s.heap := by rw [List.append_nil]; exact hP
  have hD : va_D A (V ++ []) := by rw [List.append_nil]; exact hD
  have C0 : mC p l c mi s args D y A cL_changes 4 wsL_changes := ⟨hx, hb, hml, hown, hts, hK, hA, hZ, hN, hJ, hst⟩
  have k0 := ch_0 (p := p) (e := e) (below := below) (meth := meth) (q := q) (us := us) (sv := sv) (rs := rs) (dt := dt) (ix := ix) (lf := lf) (tx := tx) (at_ := at_) (V0 := V) (x := x) hst C0 hKS hr hlocks hAe
  refine W_entry hav (Nat.le_of_ble_eq_true rfl) (fun ls hl => ?_)
  exact k0 0 0 (Nat.le_refl 0) (Nat.le_refl 0) V NN TT trivial hO s.heap [] hP hD hS ls hl
