/-! bits of numbers; the law's some -/
theorem okD_cmp {x : UInt64} (h : okD x = true) : Op.cmpValue (FP.dcmp x x) CmpOp.l = 0 := by
  have h2 : x &&& 0x7fffffffffffffff ≤ 0x7ff0000000000000 := okD_n h
  have h1 : Jvm.FP.Core.dIsNaN x = false := by
    cases e : Jvm.FP.Core.dIsNaN x with
    | false => rfl
    | true =>
      have h3 := (Jvm.FP.Core.isNaN_bits _).mp e
      rw [UInt64.le_iff_toNat_le, UInt64.toNat_and, show (0x7fffffffffffffff : UInt64).toNat = 2 ^ 63 - 1 by decide, show (0x7ff0000000000000 : UInt64).toNat = 9218868437227405312 by decide, Nat.and_two_pow_sub_one_eq_mod] at h2
      omega
  rw [show FP.dcmp x x = some .eq from Jvm.FP.Core.dcmp_refl h1]
  rfl
theorem okF_cmp {x : UInt32} (h : okF x = true) : Op.cmpValue (FP.fcmp x x) CmpOp.l = 0 := by
  have h2 : x &&& 0x7fffffff ≤ 0x7f800000 := okF_n h
  have h1 : Jvm.FP.Core.fIsNaN x = false := by
    cases e : Jvm.FP.Core.fIsNaN x with
    | false => rfl
    | true =>
      have h3 := (Jvm.FP.Core.isNaN_bits32 _).mp e
      rw [UInt32.le_iff_toNat_le, UInt32.toNat_and, show (0x7fffffff : UInt32).toNat = 2 ^ 31 - 1 by decide, show (0x7f800000 : UInt32).toNat = 2139095040 by decide, Nat.and_two_pow_sub_one_eq_mod] at h2
      omega
  rw [show FP.fcmp x x = some .eq from Jvm.FP.Core.fcmp_refl h1]
  rfl
theorem okD_22 {z hid : Int32} {ks ts : Nat → Int32} : ∀ (m : Nat) (x1 x2 x3 x4 x5 c j : Int32) (k : Nat) (r : UInt64) (y1 y2 y3 y4 y5 : Int32), F_X7_meanSteps_22 2000 z hid ks ts m x1 x2 x3 x4 x5 c j = some (k, r, y1, y2, y3, y4, y5) → okD r = true := by
  intro m
  induction m with
  | zero => intro x1 x2 x3 x4 x5 c j k r y1 y2 y3 y4 y5 h; rw [F_X7_meanSteps_22] at h; cases h
  | succ m ih =>
    intro x1 x2 x3 x4 x5 c j k r y1 y2 y3 y4 y5 h
    rw [F_X7_meanSteps_22] at h
    obtain ⟨r27, -, h⟩ := bn_i h
    split at h
    · obtain ⟨r63, -, h⟩ := bn_i h
      obtain ⟨hok, h⟩ := gd_i h
      obtain ⟨i1, i2, i3, i4, i5, i6, i7⟩ := inj7 h
      rw [← i2]; exact hok
    · obtain ⟨r43, -, h⟩ := bn_i h
      obtain ⟨a1, a2, a3, a4, a5, a6, -, h⟩ := bn6_i h
      exact ih _ _ _ _ _ _ _ _ _ _ _ _ _ _ h
theorem okD_ms {q : Lad} (hG : GL q) : okD (lq_meanSteps q) = true := by
  unfold lq_meanSteps
  split
  · unfold qv_meanSteps
    split
    · rename_i k r _ _ _ _ _ h
      show okD r = true
      unfold F_X7_meanSteps at h
      obtain ⟨r4, -, h⟩ := bn_i h
      split at h
      · obtain ⟨i1, i2, i3, i4, i5, i6, i7⟩ := inj7 h
        rw [← i2]; decide +kernel
      · exact okD_22 _ _ _ _ _ _ _ _ _ _ _ _ _ _ _ h
    · decide +kernel
  · decide +kernel
theorem okF_mr {q : Lad} (hG : GL q) : okF (lq_meanRungs q) = true := by
  unfold lq_meanRungs
  split
  · unfold qv_meanRungs
    split
    · rename_i k r h
      show okF r = true
      unfold F_X7_meanRungs at h
      obtain ⟨r4, -, h⟩ := bn_i h
      split at h
      · obtain ⟨i1, i2⟩ := inj2 h
        rw [← i2]; decide +kernel
      · obtain ⟨r22, -, h⟩ := bn_i h
        obtain ⟨r30, -, h⟩ := bn_i h
        obtain ⟨hok, h⟩ := gd_i h
        obtain ⟨i1, i2⟩ := inj2 h
        rw [← i2]; exact hok
    · decide +kernel
  · decide +kernel
def sm (v n : Int32) : Int32 := if v - v / n * n < 0 then v - v / n * n + n else v - v / n * n
set_option maxHeartbeats 4000000 in
set_option maxRecDepth 100000 in
theorem o_isNaND (l : Launch) (D : va_G) (y : Nat → ClassId) (sz : Nat) (v : UInt64) (hok : okD v = true) (V : va_W) : Met l yJxe99ae_isNaN_b9ae7 wsJxe99ae_isNaN_b9ae7 (rmx 0 0 0 0) (zlP D y V sz [.double v]) (oQi D y 0 (fun r V' => r = 0 ∧ V' = V) V sz) 0 0 (va_A V sz) := by
  refine Met.ofW (cc := cJxe99ae_isNaN_b9ae7) (maxL := 2) (ret := (some .boolean)) (by decide) rfl ?_
  intro p e s mi args below meth c s₁ B hml hv
  obtain ⟨hav, hsz, hP, hK, hD0, hZ, hN, hJ⟩ := hv
  have hx := B.exec
  have hb := B.bytes
  have hr := B.returns
  have hts := atoms_spec (ws := wsJxe99ae_isNaN_b9ae7) B.pre
  have hown : s.vm.findClass RJxe99ae = some mi.cls := findClass_of_methodNamed B.named
  have hlocks := B.notSynchronized
  subst hsz
  have hD := hD0.self (sz := s.heap.size)
  obtain ⟨A, hAe⟩ : ∃ A : Nat → Prop, va_A V s.heap.size = A := ⟨_, rfl⟩
  rw [hAe] at hD hZ hJ
  have hA : ∀ q, s.heap.size ≤ q → A q := fun q h => by rw [← hAe]; exact Or.inr h
  have hS : va_S A s.heap s.heap [] := va_S.rf
  have hP : va_P D vwCl (V ++ []) s.heap := by rw [List.append_nil]; exact hP
  have hD : va_D A (V ++ []) := by rw [List.append_nil]; exact hD
  refine W_q (R1 := (rmx 0 0 0 0)) rfl (fun Q0 hQ0 => ?_)
  refine W_entry hav (Nat.le_of_ble_eq_true rfl) (fun ls hl => ?_)
  have hl : lv_has ls 2 [(0, .double v)] := hl
  refine lv_dload_n hx hb dJxe99ae_isNaN_b9ae7_0 rfl (lv_at hl 0 rfl) ?_
  refine lv_dload_n hx hb dJxe99ae_isNaN_b9ae7_1 rfl (lv_at hl 0 rfl) ?_
  refine lv_dcmp hx hb dJxe99ae_isNaN_b9ae7_2 ?_
  refine s1_is (z := 0) (okD_cmp hok) ?_
  refine lv_if_eq (tgt := 10) hx hb dJxe99ae_isNaN_b9ae7_3 (by decide) (fun _ => ?_) (fun h9 => absurd rfl h9)
  refine lv_iconst (v := 0) hx hb dJxe99ae_isNaN_b9ae7_10 (by decide) ?_
  rw [hQ0]
  exact omret_z hx hb hr rfl hlocks hAe hK hP hD hS ⟨rfl, rfl⟩ dJxe99ae_isNaN_b9ae7_11
/-- a method of a class some of whose other methods are run by an entry: no row of the natives is hers -/
theorem Met_ofWF {l : Launch} {y : MethodName} {ws ws' : List Cond} {rm : Room} {Pc : Array Value → State → Prop} {Qc : Array Value → State → Outcome → State → Prop} {mc ms : Nat} {free : Addr → Prop} {cc : ByteArray} {maxL : Nat} {ret : Option FieldType}
    (hy : plainFor y = true) (hw : ws = Cond.code y cc maxL ret :: ws')
    (body : ∀ p e s m args below meth c s₁, BodyLoose p l y (headSpec ws rm) cc maxL ret e s m args below meth c s₁ → c.maxLocals = maxL → Pc args s →
      W p l e (headSpec ws rm).room s m args below meth c s.heap [] 0 0 (MQ below Qc args s mc ms free) (entryFrame m args maxL)) : Met l y ws rm Pc Qc mc ms free := by
  refine MetFree.of_bodySF (code := cc) (maxLocals := maxL) (ret := ret) hy (fun args s m h hn => ?_) (fun p e s m args below meth c s₁ B hml hP _ => ?_)
  · obtain ⟨meth, c, h1, h2, h3, h4, h5, h6, -, -⟩ := Cond.code_spec hn (atoms_spec (ws := ws) h _ (by rw [hw]; exact List.mem_cons_self))
    exact ⟨meth, c, h1, h2, h3, h4, h5, h6⟩
  · have hh0 : s₁.heap = s.heap := by rw [B.state]; rfl
    obtain ⟨t, a1, o, b1, b2, b3⟩ := body p e s m args below meth c s₁ B hml hP s₁ hh0 (Stand.of_body B)
    exact ⟨t, o, a1, b1, b2, ⟨b3.1, b3.2⟩⟩
set_option maxHeartbeats 4000000 in
set_option maxRecDepth 100000 in
theorem o_isNaNF (l : Launch) (D : va_G) (y : Nat → ClassId) (sz : Nat) (v : UInt32) (hok : okF v = true) (V : va_W) : Met l yJxf58ca_isNaN_12338 wsJxf58ca_isNaN_12338 (rmx 0 0 0 0) (zlP D y V sz [.float v]) (oQi D y 0 (fun r V' => r = 0 ∧ V' = V) V sz) 0 0 (va_A V sz) := by
  refine Met_ofWF (cc := cJxf58ca_isNaN_12338) (maxL := 1) (ret := (some .boolean)) (by decide +kernel) rfl ?_
  intro p e s mi args below meth c s₁ B hml hv
  obtain ⟨hav, hsz, hP, hK, hD0, hZ, hN, hJ⟩ := hv
  have hx := B.exec
  have hb := B.bytes
  have hr := B.returns
  have hts := atoms_spec (ws := wsJxf58ca_isNaN_12338) B.pre
  have hown : s.vm.findClass RJxf58ca = some mi.cls := findClass_of_methodNamed B.named
  have hlocks := B.notSynchronized
  subst hsz
  have hD := hD0.self (sz := s.heap.size)
  obtain ⟨A, hAe⟩ : ∃ A : Nat → Prop, va_A V s.heap.size = A := ⟨_, rfl⟩
  rw [hAe] at hD hZ hJ
  have hA : ∀ q, s.heap.size ≤ q → A q := fun q h => by rw [← hAe]; exact Or.inr h
  have hS : va_S A s.heap s.heap [] := va_S.rf
  have hP : va_P D vwCl (V ++ []) s.heap := by rw [List.append_nil]; exact hP
  have hD : va_D A (V ++ []) := by rw [List.append_nil]; exact hD
  refine W_q (R1 := (rmx 0 0 0 0)) rfl (fun Q0 hQ0 => ?_)
  refine W_entry hav (Nat.le_of_ble_eq_true rfl) (fun ls hl => ?_)
  have hl : lv_has ls 1 [(0, .float v)] := hl
  refine lv_fload_n hx hb dJxf58ca_isNaN_12338_0 rfl (lv_at hl 0 rfl) ?_
  refine lv_fload_n hx hb dJxf58ca_isNaN_12338_1 rfl (lv_at hl 0 rfl) ?_
  refine lv_fcmp hx hb dJxf58ca_isNaN_12338_2 ?_
  refine s1_is (z := 0) (okF_cmp hok) ?_
  refine lv_if_eq (tgt := 10) hx hb dJxf58ca_isNaN_12338_3 (by decide) (fun _ => ?_) (fun h9 => absurd rfl h9)
  refine lv_iconst (v := 0) hx hb dJxf58ca_isNaN_12338_10 (by decide) ?_
  rw [hQ0]
  exact omret_z hx hb hr rfl hlocks hAe hK hP hD hS ⟨rfl, rfl⟩ dJxf58ca_isNaN_12338_11
set_option maxHeartbeats 4000000 in
set_option maxRecDepth 100000 in
theorem o_dtl (l : Launch) (D : va_G) (y : Nat → ClassId) (sz : Nat) (v : UInt64) (hok : okD v = true) (V : va_W) : Met l yJxe99ae_doubleToLongBits_ccdee wsJxe99ae_doubleToLongBits_ccdee (rmx 2 60 0 0) (zlP D y V sz [.double v]) (oQl D y (fun r V' => r = v.toInt64 ∧ V' = V) V sz) 0 0 (va_A V sz) := by
  refine Met.ofW (cc := cJxe99ae_doubleToLongBits_ccdee) (maxL := 2) (ret := (some .long)) (by decide) rfl ?_
  intro p e s mi args below meth c s₁ B hml hv
  obtain ⟨hav, hsz, hP, hK, hD0, hZ, hN, hJ⟩ := hv
  have hx := B.exec
  have hb := B.bytes
  have hr := B.returns
  have hts := atoms_spec (ws := wsJxe99ae_doubleToLongBits_ccdee) B.pre
  have hown : s.vm.findClass RJxe99ae = some mi.cls := findClass_of_methodNamed B.named
  have hlocks := B.notSynchronized
  subst hsz
  have hD := hD0.self (sz := s.heap.size)
  obtain ⟨A, hAe⟩ : ∃ A : Nat → Prop, va_A V s.heap.size = A := ⟨_, rfl⟩
  rw [hAe] at hD hZ hJ
  have hA : ∀ q, s.heap.size ≤ q → A q := fun q h => by rw [← hAe]; exact Or.inr h
  have hS : va_S A s.heap s.heap [] := va_S.rf
  have hP : va_P D vwCl (V ++ []) s.heap := by rw [List.append_nil]; exact hP
  have hD : va_D A (V ++ []) := by rw [List.append_nil]; exact hD
  refine W_q (R1 := (rmx 2 60 0 0)) rfl (fun Q0 hQ0 => ?_)
  refine W_entry hav (Nat.le_of_ble_eq_true rfl) (fun ls hl => ?_)
  have hl : lv_has ls 2 [(0, .double v)] := hl
  refine lv_dload_n hx hb dJxe99ae_doubleToLongBits_ccdee_0 rfl (lv_at hl 0 rfl) ?_
  refine ow_Mi (As := [.double v]) (rest := []) ⟨hx, hb, hml, hown, hts⟩ (o_isNaND l D y s.heap.size v hok V) (va_cwS 1 hts gJxe99ae_doubleToLongBits_ccdee_Jxe99ae_isNaN_b9ae7 rfl rfl rfl (by decide +kernel) ⟨(Nat.le_of_ble_eq_true rfl), (Nat.le_of_ble_eq_true rfl)⟩) hK hP hD hS hA hZ hN hJ rfl hl.1 rfl (Nat.le_of_ble_eq_true rfl) dJxe99ae_doubleToLongBits_ccdee_1 ⟨(Nat.le_of_ble_eq_true rfl), (Nat.le_of_ble_eq_true rfl)⟩ (fun r9 V9 H locs h9 hP hD hS => ?_)
  obtain ⟨rfl, e9⟩ := h9
  rw [e9] at hP hD
  refine lv_if_ne (tgt := 12) hx hb dJxe99ae_doubleToLongBits_ccdee_4 (by decide) (fun h9 => absurd rfl h9) (fun _ => ?_)
  refine lv_dload_n hx hb dJxe99ae_doubleToLongBits_ccdee_7 rfl (lv_at hl 0 rfl) ?_
  refine vn_d2l hx hb (hml.trans hl.1.symm) hown (hts (.methodLink RJxe99ae 134 ⟨"java/lang/Double", "doubleToRawLongBits", "(D)J"⟩) (List.mem_of_getElem? (i := 1) rfl)) (hts (.native ⟨"java/lang/Double", "doubleToRawLongBits", "(D)J"⟩) (List.mem_of_getElem? (i := 2) rfl)) (hts (.static ⟨"java/lang/Double", "doubleToRawLongBits", "(D)J"⟩) (List.mem_of_getElem? (i := 3) rfl)) (hts (.initialized "java/lang/Double") (List.mem_of_getElem? (i := 4) rfl)) (Nat.le_of_ble_eq_true rfl) (Nat.le_of_ble_eq_true rfl) dJxe99ae_doubleToLongBits_ccdee_8 ?_
  rw [hQ0]
  exact omret_l hx hb hr hlocks hAe hK hP hD hS ⟨rfl, rfl⟩ dJxe99ae_doubleToLongBits_ccdee_11
set_option maxHeartbeats 4000000 in
set_option maxRecDepth 100000 in
theorem o_fti (l : Launch) (D : va_G) (y : Nat → ClassId) (sz : Nat) (v : UInt32) (hok : okF v = true) (V : va_W) : Met l yJxf58ca_floatToIntBits_5c35a wsJxf58ca_floatToIntBits_5c35a (rmx 2 60 0 0) (zlP D y V sz [.float v]) (oQi D y 0 (fun r V' => r = v.toInt32 ∧ V' = V) V sz) 0 0 (va_A V sz) := by
  refine Met_ofWF (cc := cJxf58ca_floatToIntBits_5c35a) (maxL := 1) (ret := (some .int)) (by decide +kernel) rfl ?_
  intro p e s mi args below meth c s₁ B hml hv
  obtain ⟨hav, hsz, hP, hK, hD0, hZ, hN, hJ⟩ := hv
  have hx := B.exec
  have hb := B.bytes
  have hr := B.returns
  have hts := atoms_spec (ws := wsJxf58ca_floatToIntBits_5c35a) B.pre
  have hown : s.vm.findClass RJxf58ca = some mi.cls := findClass_of_methodNamed B.named
  have hlocks := B.notSynchronized
  subst hsz
  have hD := hD0.self (sz := s.heap.size)
  obtain ⟨A, hAe⟩ : ∃ A : Nat → Prop, va_A V s.heap.size = A := ⟨_, rfl⟩
  rw [hAe] at hD hZ hJ
  have hA : ∀ q, s.heap.size ≤ q → A q := fun q h => by rw [← hAe]; exact Or.inr h
  have hS : va_S A s.heap s.heap [] := va_S.rf
  have hP : va_P D vwCl (V ++ []) s.heap := by rw [List.append_nil]; exact hP
  have hD : va_D A (V ++ []) := by rw [List.append_nil]; exact hD
  refine W_q (R1 := (rmx 2 60 0 0)) rfl (fun Q0 hQ0 => ?_)
  refine W_entry hav (Nat.le_of_ble_eq_true rfl) (fun ls hl => ?_)
  have hl : lv_has ls 1 [(0, .float v)] := hl
  refine lv_fload_n hx hb dJxf58ca_floatToIntBits_5c35a_0 rfl (lv_at hl 0 rfl) ?_
  refine ow_Mi (As := [.float v]) (rest := []) ⟨hx, hb, hml, hown, hts⟩ (o_isNaNF l D y s.heap.size v hok V) (va_cwS 1 hts gJxf58ca_floatToIntBits_5c35a_Jxf58ca_isNaN_12338 rfl rfl rfl (by decide +kernel) ⟨(Nat.le_of_ble_eq_true rfl), (Nat.le_of_ble_eq_true rfl)⟩) hK hP hD hS hA hZ hN hJ rfl hl.1 rfl (Nat.le_of_ble_eq_true rfl) dJxf58ca_floatToIntBits_5c35a_1 ⟨(Nat.le_of_ble_eq_true rfl), (Nat.le_of_ble_eq_true rfl)⟩ (fun r9 V9 H locs h9 hP hD hS => ?_)
  obtain ⟨rfl, e9⟩ := h9
  rw [e9] at hP hD
  refine lv_if_ne (tgt := 12) hx hb dJxf58ca_floatToIntBits_5c35a_4 (by decide) (fun h9 => absurd rfl h9) (fun _ => ?_)
  refine lv_fload_n hx hb dJxf58ca_floatToIntBits_5c35a_7 rfl (lv_at hl 0 rfl) ?_
  refine vn_f2i hx hb (hml.trans hl.1.symm) hown (hts (.methodLink RJxf58ca 74 ⟨"java/lang/Float", "floatToRawIntBits", "(F)I"⟩) (List.mem_of_getElem? (i := 1) rfl)) (hts (.native ⟨"java/lang/Float", "floatToRawIntBits", "(F)I"⟩) (List.mem_of_getElem? (i := 2) rfl)) (hts (.static ⟨"java/lang/Float", "floatToRawIntBits", "(F)I"⟩) (List.mem_of_getElem? (i := 3) rfl)) (hts (.initialized "java/lang/Float") (List.mem_of_getElem? (i := 4) rfl)) (Nat.le_of_ble_eq_true rfl) (Nat.le_of_ble_eq_true rfl) dJxf58ca_floatToIntBits_5c35a_8 ?_
  rw [hQ0]
  exact omret_i hx hb hr hlocks hAe hK hP hD hS ⟨rfl, rfl⟩ dJxf58ca_floatToIntBits_5c35a_11
set_option maxHeartbeats 4000000 in
set_option maxRecDepth 100000 in
theorem o_some (l : Launch) (D : va_G) (y : Nat → ClassId) (sz : Nat) (v n : Int32) (hn : ¬ n = 0) (V : va_W) : Met l yL_some wsL_some (rmx 0 0 0 0) (zlP D y V sz [.int v, .int n]) (oQi D y 0 (fun r V' => r = sm v n ∧ V' = V) V sz) 0 0 (va_A V sz) := by
  refine Met.ofW (cc := cL_some) (maxL := 3) (ret := (some .int)) (by decide) rfl ?_
  intro p e s mi args below meth c s₁ B hml hv
  obtain ⟨hav, hsz, hP, hK, hD0, hZ, hN, hJ⟩ := hv
  have hx := B.exec
  have hb := B.bytes
  have hr := B.returns
  have hts := atoms_spec (ws := wsL_some) B.pre
  have hown : s.vm.findClass RL = some mi.cls := findClass_of_methodNamed B.named
  have hlocks := B.notSynchronized
  subst hsz
  have hD := hD0.self (sz := s.heap.size)
  obtain ⟨A, hAe⟩ : ∃ A : Nat → Prop, va_A V s.heap.size = A := ⟨_, rfl⟩
  rw [hAe] at hD hZ hJ
  have hA : ∀ q, s.heap.size ≤ q → A q := fun q h => by rw [← hAe]; exact Or.inr h
  have hS : va_S A s.heap s.heap [] := va_S.rf
  have hP : va_P D vwCl (V ++ []) s.heap := by rw [List.append_nil]; exact hP
  have hD : va_D A (V ++ []) := by rw [List.append_nil]; exact hD
  refine W_q (R1 := (rmx 0 0 0 0)) rfl (fun Q0 hQ0 => ?_)
  refine W_entry hav (Nat.le_of_ble_eq_true rfl) (fun ls hl => ?_)
  have hl : lv_has ls 3 [(0, .int v), (1, .int n)] := hl
  refine lv_iload_n hx hb dL_some_0 rfl (lv_at hl 0 rfl) ?_
  refine lv_iload_n hx hb dL_some_1 rfl (lv_at hl 1 rfl) ?_
  refine lv_irem hx hb dL_some_2 hn ?_
  refine lv_istore_n (lv' := [(2, .int (v - v / n * n)), (0, .int v), (1, .int n)]) hx hb dL_some_3 rfl hl (by decide) rfl (fun ls hl => ?_)
  refine lv_iload_n hx hb dL_some_4 rfl (lv_at hl 0 rfl) ?_
  refine lv_if_ge (tgt := 14) hx hb dL_some_5 (by decide) (fun c0 => ?_) (fun c0 => ?_)
  · refine lv_iload_n hx hb dL_some_14 rfl (lv_at hl 0 rfl) ?_
    rw [hQ0]
    exact omret_i hx hb hr hlocks hAe hK hP hD hS ⟨by unfold sm; rw [if_neg (Int32.not_lt.mpr c0)], rfl⟩ dL_some_15
  · refine lv_iload_n hx hb dL_some_8 rfl (lv_at hl 0 rfl) ?_
    refine lv_iload_n hx hb dL_some_9 rfl (lv_at hl 2 rfl) ?_
    refine lv_iadd hx hb dL_some_10 ?_
    refine lv_goto (tgt := 15) hx hb dL_some_11 (by decide) ?_
    rw [hQ0]
    exact omret_i hx hb hr hlocks hAe hK hP hD hS ⟨by unfold sm; rw [if_pos (Int32.not_le.mp c0)], rfl⟩ dL_some_15
