/-! what the start's premises give -/
theorem wh_sel {C : String} {y z : MethodName} {s : State} {args : Array Value} (hz : z.cls = y.cls) (hy : y.cls ≠ "java/lang/invoke/MethodHandle" ∧ y.cls ≠ "java/lang/invoke/VarHandle") (hs : (Cond.selects C z z).before args s = true) (hpriv : (Cond.privateMethod y).before args s = true) (hinst : (Cond.instanceMethod y).before args s = true) : (Cond.selects C y y).before args s = true := by
  obtain ⟨c, r0, m0, h1, h2, h3, h4, mk0, h5, h6⟩ := Cond.selects_spec hs
  obtain ⟨mk, methM, hnamed, hmethM, -, -⟩ := Cond.instanceMethod_spec hinst
  have hfound : s.methodFound? y.cls y.name y.desc = some mk := State.methodFound?_of_named hnamed hy
  have e1 := findClass_of_methodNamed h3
  have e2 := findClass_of_methodNamed hnamed
  rw [hz] at e1
  have hcls : mk.cls = m0.cls := Option.some.inj (e2.symm.trans e1)
  have hsel : selectMethod {} s.vm c mk = .method mk := selectMethod_private hmethM (Cond.privateMethod_at hpriv mk methM hnamed hmethM)
  simp only [Cond.before, Cond.holds, Cond.value, h1, hfound, hnamed, hsel, hcls, h5]
  simp; exact h6
theorem wh_hts {s : State} {args : Array Value} (ht : ∀ w ∈ lw_tbl, w.before args s = true) : ∀ w ∈ lw_tblx, w.before args s = true := List.forall_mem_append.mpr ⟨ht, List.forall_mem_cons.mpr ⟨wh_sel (C := RJ4) (y := ⟨"java/lang/AbstractStringBuilder", "ensureCapacityInternal", "(I)V"⟩) (z := ⟨"java/lang/AbstractStringBuilder", "isLatin1", "()Z"⟩) rfl (by decide +kernel) (ht _ (List.mem_of_getElem? (i := 1136) (by decide +kernel))) (ht _ (List.mem_of_getElem? (i := 1105) (by decide +kernel))) (ht _ (List.mem_of_getElem? (i := 1106) (by decide +kernel))), List.forall_mem_cons.mpr ⟨wh_sel (C := RJ4) (y := ⟨"java/lang/AbstractStringBuilder", "newCapacity", "(I)I"⟩) (z := ⟨"java/lang/AbstractStringBuilder", "isLatin1", "()Z"⟩) rfl (by decide +kernel) (ht _ (List.mem_of_getElem? (i := 1136) (by decide +kernel))) (ht _ (List.mem_of_getElem? (i := 1109) (by decide +kernel))) (ht _ (List.mem_of_getElem? (i := 1110) (by decide +kernel))), List.forall_mem_cons.mpr ⟨wh_sel (C := RJ4) (y := ⟨"java/lang/AbstractStringBuilder", "inflate", "()V"⟩) (z := ⟨"java/lang/AbstractStringBuilder", "isLatin1", "()Z"⟩) rfl (by decide +kernel) (ht _ (List.mem_of_getElem? (i := 1136) (by decide +kernel))) (ht _ (List.mem_of_getElem? (i := 1183) (by decide +kernel))) (ht _ (List.mem_of_getElem? (i := 1184) (by decide +kernel))), fun _ h => absurd h List.not_mem_nil⟩⟩⟩⟩
theorem wh_arr {ty : FieldType} {s : State} {args : Array Value} (h : (Cond.arrayClass ty).before args s = true) : ∃ cA, ArrOfT s cA ty ∧ s.vm.findClass ("[" ++ ty.toString) = some cA := by
  obtain ⟨c, k, comp, f1, f2, f3⟩ := Cond.arrayClass_spec h
  exact ⟨c, fun N z => ⟨(fun k h => by cases h), k, f2, comp, f3⟩, f1⟩
theorem wh_K {s : State} {args : Array Value} (ht : ∀ w ∈ lw_tbl, w.before args s = true) (hx : ∀ w ∈ lw_tblx, w.before args s = true) : ∃ (D : va_G) (y : Nat → ClassId), va_K D vwCl (tyl y) s := by
  obtain ⟨c0, i0, k0⟩ := u_known (C := RJ0) (T := TJ0) (N := 4) (n := 4) hx inJ0 (ht _ (List.mem_of_getElem? (i := 886) (by decide +kernel)))
  obtain ⟨c1, i1, k1⟩ := u_known (C := RJ4) (T := TJ4) (N := 4) (n := 4) hx inJ4 (ht _ (List.mem_of_getElem? (i := 241) (by decide +kernel)))
  obtain ⟨c2, i2, k2⟩ := u_known (C := RJx00060) (T := TJx00060) (N := 6) (n := 6) hx inJx00060 (ht _ (List.mem_of_getElem? (i := 860) (by decide +kernel)))
  obtain ⟨c3, i3, k3⟩ := u_known (C := RJx7c733) (T := TJx7c733) (N := 6) (n := 6) hx inJx7c733 (ht _ (List.mem_of_getElem? (i := 1086) (by decide +kernel)))
  obtain ⟨c4, i4, k4⟩ := u_known (C := RX0) (T := TX0) (N := 5) (n := 5) hx inX0 (ht _ (List.mem_of_getElem? (i := 161) (by decide +kernel)))
  obtain ⟨c5, i5, k5⟩ := u_known (C := RX1) (T := TX1) (N := 3) (n := 3) hx inX1 (ht _ (List.mem_of_getElem? (i := 100) (by decide +kernel)))
  obtain ⟨c6, i6, k6⟩ := u_known (C := RX2) (T := TX2) (N := 3) (n := 3) hx inX2 (ht _ (List.mem_of_getElem? (i := 222) (by decide +kernel)))
  obtain ⟨c7, i7, k7⟩ := u_known (C := RX3) (T := TX3) (N := 6) (n := 6) hx inX3 (ht _ (List.mem_of_getElem? (i := 94) (by decide +kernel)))
  obtain ⟨c8, i8, k8⟩ := u_known (C := RX4) (T := TX4) (N := 4) (n := 4) hx inX4 (ht _ (List.mem_of_getElem? (i := 183) (by decide +kernel)))
  obtain ⟨c9, i9, k9⟩ := u_known (C := RX5) (T := TX5) (N := 4) (n := 4) hx inX5 (ht _ (List.mem_of_getElem? (i := 202) (by decide +kernel)))
  obtain ⟨c10, i10, k10⟩ := u_known (C := RX6) (T := TX6) (N := 6) (n := 6) hx inX6 (ht _ (List.mem_of_getElem? (i := 136) (by decide +kernel)))
  obtain ⟨c11, i11, k11⟩ := u_known (C := RX7) (T := TX7) (N := 11) (n := 11) hx inX7 (ht _ (List.mem_of_getElem? (i := 86) (by decide +kernel)))
  obtain ⟨c12, i12, k12⟩ := u_known (C := RX8) (T := TX8) (N := 22) (n := 22) hx inX8 (ht _ (List.mem_of_getElem? (i := 1471) (by decide +kernel)))
  obtain ⟨y0, a0, b0⟩ := wh_arr (ty := .int) (ht _ (List.mem_of_getElem? (i := 115) (by decide +kernel)))
  obtain ⟨y1, a1, b1⟩ := wh_arr (ty := .char) (ht _ (List.mem_of_getElem? (i := 220) (by decide +kernel)))
  obtain ⟨y2, a2, b2⟩ := wh_arr (ty := .byte) (ht _ (List.mem_of_getElem? (i := 272) (by decide +kernel)))
  obtain ⟨y3, a3, b3⟩ := wh_arr (ty := .long) (ht _ (List.mem_of_getElem? (i := 1855) (by decide +kernel)))
  obtain ⟨y4, a4, b4⟩ := wh_arr (ty := .double) (ht _ (List.mem_of_getElem? (i := 1856) (by decide +kernel)))
  have hov : (Cond.arrayOver (.object "SkipArchive$Ladder")).before args s = true := ht _ (List.mem_of_getElem? (i := 228) (by decide +kernel))
  obtain ⟨comp, y5, kA, h1, h2, h3, h4, h5⟩ := Cond.arrayOver_spec (n := "SkipArchive$Ladder") hov
  let Dc : Nat → ClassId := fun c => if c = 0 then c0 else if c = 1 then c1 else if c = 2 then c2 else if c = 3 then c3 else if c = 4 then c4 else if c = 5 then c5 else if c = 6 then c6 else if c = 7 then c7 else if c = 8 then c8 else if c = 9 then c9 else if c = 10 then c10 else if c = 11 then c11 else c12
  let Di : Nat → Nat → Nat := fun c => if c = 0 then i0 else if c = 1 then i1 else if c = 2 then i2 else if c = 3 then i3 else if c = 4 then i4 else if c = 5 then i5 else if c = 6 then i6 else if c = 7 then i7 else if c = 8 then i8 else if c = 9 then i9 else if c = 10 then i10 else if c = 11 then i11 else i12
  let y : Nat → ClassId := fun k => if k = 0 then y0 else if k = 1 then y1 else if k = 2 then y2 else if k = 3 then y3 else if k = 4 then y4 else y5
  refine ⟨(Dc, Di), y, ⟨fun c q hq => ?_, fun k q hq => ?_⟩⟩
  · have hlt : c < 13 := (List.getElem?_eq_some_iff.mp hq).1
    rcases (show c = 0 ∨ c = 1 ∨ c = 2 ∨ c = 3 ∨ c = 4 ∨ c = 5 ∨ c = 6 ∨ c = 7 ∨ c = 8 ∨ c = 9 ∨ c = 10 ∨ c = 11 ∨ c = 12 by omega) with rfl | rfl | rfl | rfl | rfl | rfl | rfl | rfl | rfl | rfl | rfl | rfl | rfl
    · obtain rfl : (RJ0, TJ0, 4) = q := Option.some.inj hq
      exact k0
    · obtain rfl : (RJ4, TJ4, 4) = q := Option.some.inj hq
      exact k1
    · obtain rfl : (RJx00060, TJx00060, 6) = q := Option.some.inj hq
      exact k2
    · obtain rfl : (RJx7c733, TJx7c733, 6) = q := Option.some.inj hq
      exact k3
    · obtain rfl : (RX0, TX0, 5) = q := Option.some.inj hq
      exact k4
    · obtain rfl : (RX1, TX1, 3) = q := Option.some.inj hq
      exact k5
    · obtain rfl : (RX2, TX2, 3) = q := Option.some.inj hq
      exact k6
    · obtain rfl : (RX3, TX3, 6) = q := Option.some.inj hq
      exact k7
    · obtain rfl : (RX4, TX4, 4) = q := Option.some.inj hq
      exact k8
    · obtain rfl : (RX5, TX5, 4) = q := Option.some.inj hq
      exact k9
    · obtain rfl : (RX6, TX6, 6) = q := Option.some.inj hq
      exact k10
    · obtain rfl : (RX7, TX7, 11) = q := Option.some.inj hq
      exact k11
    · obtain rfl : (RX8, TX8, 22) = q := Option.some.inj hq
      exact k12
  · have hlt : k < 6 := (List.getElem?_eq_some_iff.mp hq).1
    rcases (show k = 0 ∨ k = 1 ∨ k = 2 ∨ k = 3 ∨ k = 4 ∨ k = 5 by omega) with rfl | rfl | rfl | rfl | rfl | rfl
    · obtain rfl : (y0, FieldType.int) = q := Option.some.inj hq
      exact ⟨a0, b0⟩
    · obtain rfl : (y1, FieldType.char) = q := Option.some.inj hq
      exact ⟨a1, b1⟩
    · obtain rfl : (y2, FieldType.byte) = q := Option.some.inj hq
      exact ⟨a2, b2⟩
    · obtain rfl : (y3, FieldType.long) = q := Option.some.inj hq
      exact ⟨a3, b3⟩
    · obtain rfl : (y4, FieldType.double) = q := Option.some.inj hq
      exact ⟨a4, b4⟩
    · obtain rfl : (y5, FieldType.object "SkipArchive$Ladder") = q := Option.some.inj hq
      exact ⟨fun N z => ⟨(fun k h => by cases h), kA, h3, comp, h4⟩, ⟨kA, comp, h3, h4, h1, h5⟩⟩
theorem wh_nc {s : State} {args : Array Value} (hn : ∀ w ∈ flatC (Cond.and given_1 narrow_1), w.before args s = true) : ncP s := List.forall_mem_cons.mpr ⟨va_Nc.of (hn _ (List.mem_of_getElem? (i := 246) (by decide +kernel))), List.forall_mem_cons.mpr ⟨va_Nc.of (hn _ (List.mem_of_getElem? (i := 282) (by decide +kernel))), List.forall_mem_cons.mpr ⟨va_Nc.of (hn _ (List.mem_of_getElem? (i := 283) (by decide +kernel))), List.forall_mem_cons.mpr ⟨va_Nc.of (hn _ (List.mem_of_getElem? (i := 245) (by decide +kernel))), fun _ h => absurd h List.not_mem_nil⟩⟩⟩⟩
theorem wh_thr {s : State} {args : Array Value} (ht : ∀ w ∈ lw_tbl, w.before args s = true) (hn : ∀ w ∈ flatC (Cond.and given_1 narrow_1), w.before args s = true) : thrZ (fun z : Nat => s.heap.size ≤ z) s s.heap := by
  have hA : ∀ a : Nat, a < s.heap.size → ¬ s.heap.size ≤ a := fun a h => Nat.not_le.mpr h
  refine ⟨vx_Zqof (ht _ (List.mem_of_getElem? (i := 425) (by decide +kernel))) (ht _ (List.mem_of_getElem? (i := 66) (by decide +kernel))) (hn _ (List.mem_of_getElem? (i := 5) (by decide +kernel))) hA, vx_Zqof (ht _ (List.mem_of_getElem? (i := 427) (by decide +kernel))) (ht _ (List.mem_of_getElem? (i := 66) (by decide +kernel))) (hn _ (List.mem_of_getElem? (i := 6) (by decide +kernel))) hA, ?_, ?_⟩
  · exact List.forall_mem_cons.mpr ⟨va_Nw.of rfl (ht _ (List.mem_of_getElem? (i := 401) (by decide +kernel))), List.forall_mem_cons.mpr ⟨va_Nw.of rfl (ht _ (List.mem_of_getElem? (i := 403) (by decide +kernel))), List.forall_mem_cons.mpr ⟨va_Nw.of rfl (ht _ (List.mem_of_getElem? (i := 405) (by decide +kernel))), fun _ h => absurd h List.not_mem_nil⟩⟩⟩
  · exact List.forall_mem_cons.mpr ⟨va_Nw.of rfl (ht _ (List.mem_of_getElem? (i := 656) (by decide +kernel))), List.forall_mem_cons.mpr ⟨va_Nw.of rfl (ht _ (List.mem_of_getElem? (i := 676) (by decide +kernel))), List.forall_mem_cons.mpr ⟨va_Nw.of rfl (ht _ (List.mem_of_getElem? (i := 900) (by decide +kernel))), List.forall_mem_cons.mpr ⟨va_Nw.of rfl (ht _ (List.mem_of_getElem? (i := 400) (by decide +kernel))), List.forall_mem_cons.mpr ⟨va_Nw.of rfl (ht _ (List.mem_of_getElem? (i := 971) (by decide +kernel))), List.forall_mem_cons.mpr ⟨va_Nw.of rfl (ht _ (List.mem_of_getElem? (i := 1388) (by decide +kernel))), fun _ h => absurd h List.not_mem_nil⟩⟩⟩⟩⟩⟩
theorem wh_eqi {s : State} {args : Array Value} {t : Term} {z : Int32} (h : (Cond.eq t (.int z)).before args s = true) : t.eval args s none [] s = some (.int z) := by
  cases hv : t.eval args s none [] s with
  | none => simp [Cond.before, Cond.holds, Cond.value, hv] at h
  | some w =>
    have hz : (Term.int z).eval args s none [] s = some (.int z) := rfl
    simp only [Cond.before, Cond.holds, Cond.value, hv, hz] at h
    cases w <;> simp_all
set_option maxRecDepth 100000 in
theorem wh_ones0 : ∀ j < 100, (flatC (Cond.and given_1 narrow_1))[14 + j]? = some (Cond.eq (.elem (.static "java/lang/Integer" "DigitOnes" "[B") (.int (Int32.ofNat j))) (.int (nI (48 + j % 10)))) := by decide +kernel
theorem wh_ones {s : State} {args : Array Value} (ht : ∀ w ∈ lw_tbl, w.before args s = true) (hn : ∀ w ∈ flatC (Cond.and given_1 narrow_1), w.before args s = true) : ∃ t : Nat, va_Z "java/lang/Integer" "DigitOnes" "[B" (.ref t) (fun z : Nat => s.heap.size ≤ z) s s.heap ∧ va_T .byte t 100 (fun j => .int (nI (48 + j % 10))) (fun z : Nat => s.heap.size ≤ z) s s.heap := by
  have hA : ∀ a : Nat, a < s.heap.size → ¬ s.heap.size ≤ a := fun a h => Nat.not_le.mpr h
  obtain ⟨t, e, hT⟩ := va_Tof (tm := .static "java/lang/Integer" "DigitOnes" "[B") (ty := .byte) (N := 100) (f := fun j => .int (nI (48 + j % 10))) (by decide) (hn _ (List.mem_of_getElem? (i := 12) (by decide +kernel))) (wh_eqi (z := 100) (hn _ (List.mem_of_getElem? (i := 13) (by decide +kernel)))) (fun j hj => wh_eqi (hn _ (List.mem_of_getElem? (wh_ones0 j hj)))) hA
  exact ⟨t, va_Zref (ht _ (List.mem_of_getElem? (i := 1221) (by decide +kernel))) (ht _ (List.mem_of_getElem? (i := 83) (by decide +kernel))) e hA, hT⟩
set_option maxRecDepth 100000 in
theorem wh_tens0 : ∀ j < 100, (flatC (Cond.and given_1 narrow_1))[117 + j]? = some (Cond.eq (.elem (.static "java/lang/Integer" "DigitTens" "[B") (.int (Int32.ofNat j))) (.int (nI (48 + j / 10)))) := by decide +kernel
theorem wh_tens {s : State} {args : Array Value} (ht : ∀ w ∈ lw_tbl, w.before args s = true) (hn : ∀ w ∈ flatC (Cond.and given_1 narrow_1), w.before args s = true) : ∃ t : Nat, va_Z "java/lang/Integer" "DigitTens" "[B" (.ref t) (fun z : Nat => s.heap.size ≤ z) s s.heap ∧ va_T .byte t 100 (fun j => .int (nI (48 + j / 10))) (fun z : Nat => s.heap.size ≤ z) s s.heap := by
  have hA : ∀ a : Nat, a < s.heap.size → ¬ s.heap.size ≤ a := fun a h => Nat.not_le.mpr h
  obtain ⟨t, e, hT⟩ := va_Tof (tm := .static "java/lang/Integer" "DigitTens" "[B") (ty := .byte) (N := 100) (f := fun j => .int (nI (48 + j / 10))) (by decide) (hn _ (List.mem_of_getElem? (i := 115) (by decide +kernel))) (wh_eqi (z := 100) (hn _ (List.mem_of_getElem? (i := 116) (by decide +kernel)))) (fun j hj => wh_eqi (hn _ (List.mem_of_getElem? (wh_tens0 j hj)))) hA
  exact ⟨t, va_Zref (ht _ (List.mem_of_getElem? (i := 1223) (by decide +kernel))) (ht _ (List.mem_of_getElem? (i := 83) (by decide +kernel))) e hA, hT⟩
theorem wh_jd {s : State} {args : Array Value} (ht : ∀ w ∈ lw_tbl, w.before args s = true) (hn : ∀ w ∈ flatC (Cond.and given_1 narrow_1), w.before args s = true) : jdZ (fun z : Nat => s.heap.size ≤ z) s s.heap := by
  have hA : ∀ a : Nat, a < s.heap.size → ¬ s.heap.size ≤ a := fun a h => Nat.not_le.mpr h
  exact ⟨va_Zof (ht _ (List.mem_of_getElem? (i := 250) (by decide +kernel))) (ht _ (List.mem_of_getElem? (i := 63) (by decide +kernel))) (va_eqi (hn _ (List.mem_of_getElem? (i := 4) (by decide +kernel)))) hA, va_AO.of (ht _ (List.mem_of_getElem? (i := 228) (by decide +kernel))), va_Zqof (ht _ (List.mem_of_getElem? (i := 1151) (by decide +kernel))) (ht _ (List.mem_of_getElem? (i := 80) (by decide +kernel))) (hn _ (List.mem_of_getElem? (i := 7) (by decide +kernel))) hA, wh_ones ht hn, wh_tens ht hn⟩
theorem wh_st {l : Launch} (h : l.flags = flags0) : l.stackTraces = false := by unfold Launch.stackTraces; rw [h]; decide +kernel
