/-! ghosts: a ladder as numbers, cut at its size; what each question answers, as a function of it -/
abbrev Lad : Type := Int32 × Int32 × (Nat → Int32) × (Nat → Int32) × (Nat → Int32) × Int32 × Int32 × Int32
def cut (z : Int32) (f : Nat → Int32) : Nat → Int32 := fun j => if j < z.toNatClampNeg then f j else 0
abbrev NRM (z hid : Int32) (ks ws ts : Nat → Int32) (cn ct ch : Int32) : Lad := (z, hid, cut z ks, cut z ws, cut z ts, cn, ct, ch)
abbrev LLg (g : Lad) (a : Nat → Int32) : Prop := LL g.1 g.2.1 g.2.2.1 g.2.2.2.1 g.2.2.2.2.1 g.2.2.2.2.2.1 g.2.2.2.2.2.2.1 g.2.2.2.2.2.2.2 a
variable {fl n : Nat} {ks ws ts a : Nat → Int32} {key lev hid cn ct' ch z : Int32} {th g f p1 p2 x1 x2 x3 x4 x5 : Int32} {way : Nat → Int32}
theorem cut_n {f : Nat → Int32} {j : Nat} (hn : n ≤ 24) (h : j < n) : cut (nI n) f j = f j := by
  unfold cut
  rw [nI_clamp (by omega), if_pos h]
theorem cut_eq {f f' : Nat → Int32} (hn : n ≤ 24) (h : ∀ j, j < n → f j = f' j) : cut (nI n) f = cut (nI n) f' := by
  funext j
  unfold cut
  rw [nI_clamp (by omega)]
  by_cases c : j < n
  · rw [if_pos c, if_pos c]; exact h j c
  · rw [if_neg c, if_neg c]
theorem LL_cut (h : LL z hid ks ws ts cn ct' ch a) : LL z hid (cut z ks) (cut z ws) (cut z ts) cn ct' ch a := by
  obtain ⟨n, rfl, ⟨l1, l2, l3, l4, l5⟩, m0, m1, m2, m3, m4, m5⟩ := h
  refine ⟨n, rfl, ⟨l1, fun i j hij hj => ?_, fun j hj => ?_, fun j hj => ?_, l5⟩, m0, m1, m2, m3, m4, fun j hj => ?_⟩
  · rw [cut_n l1 (show i < n by omega), cut_n l1 hj]; exact l2 i j hij hj
  · rw [cut_n l1 hj]; exact l3 j hj
  · rw [cut_n l1 hj]; exact l4 j hj
  · rw [cut_n l1 hj, cut_n l1 hj, cut_n l1 hj]; exact m5 j hj
theorem LLg_cut (h : LL z hid ks ws ts cn ct' ch a) : LLg (NRM z hid ks ws ts cn ct' ch) a := LL_cut h
theorem NRM_a {z2 hid2 cn2 ct2 ch2 : Int32} {ks2 ws2 ts2 : Nat → Int32} (h : LL z hid ks ws ts cn ct' ch a) (h2 : LL z2 hid2 ks2 ws2 ts2 cn2 ct2 ch2 a) : NRM z hid ks ws ts cn ct' ch = NRM z2 hid2 ks2 ws2 ts2 cn2 ct2 ch2 := by
  obtain ⟨n, rfl, hl, m0, m1, m2, m3, m4, m5⟩ := h
  obtain ⟨n', rfl, hl', q0, q1, q2, q3, q4, q5⟩ := h2
  have hn := hl.1
  have hn' := hl'.1
  have e : n = n' := (nI_eq (by omega) (by omega)).mp (m0.symm.trans q0)
  subst e
  show (_, _, _, _, _, _, _, _) = (_, _, _, _, _, _, _, _)
  rw [cut_eq hn (fun j hj => (m5 j hj).1.symm.trans (q5 j hj).1), cut_eq hn (fun j hj => (m5 j hj).2.1.symm.trans (q5 j hj).2.1), cut_eq hn (fun j hj => (m5 j hj).2.2.symm.trans (q5 j hj).2.2), m4.symm.trans q4, m1.symm.trans q1, m2.symm.trans q2, m3.symm.trans q3]
theorem NRM_id {z hid cn ct' ch : Int32} {ks ws ts : Nat → Int32} : NRM z hid (cut z ks) (cut z ws) (cut z ts) cn ct' ch = NRM z hid ks ws ts cn ct' ch := by
  have e : ∀ f : Nat → Int32, cut z (cut z f) = cut z f := fun f => by
    funext j
    unfold cut
    by_cases c : j < z.toNatClampNeg
    · rw [if_pos c, if_pos c]
    · rw [if_neg c, if_neg c]
  show (_, _, _, _, _, _, _, _) = (_, _, _, _, _, _, _, _)
  rw [e, e, e]
theorem OU1_q {c k k' : Nat} {r r' b th : Int32} (h : OU1 c k r b th) (h' : OU1 c k' r' b th) : k = k' ∧ (k = 0 → r = r') := by
  rcases h with ⟨rfl, rfl, rfl⟩ | ⟨rfl, rfl, rfl⟩ <;> rcases h' with ⟨rfl, e, rfl⟩ | ⟨rfl, e, rfl⟩ <;> first | exact ⟨rfl, fun _ => rfl⟩ | exact absurd e (by decide)
theorem OU2_q {c c2 k k' : Nat} {r r' b th : Int32} (h : OU2 c c2 k r b th) (h' : OU2 c c2 k' r' b th) : k = k' ∧ (k = 0 → r = r') := by
  rcases h with ⟨rfl, rfl, rfl⟩ | ⟨rfl, rfl, rfl⟩ | ⟨rfl, rfl, rfl⟩ <;> rcases h' with ⟨rfl, e, rfl⟩ | ⟨rfl, e, rfl⟩ | ⟨rfl, e, rfl⟩ <;> first | exact ⟨rfl, fun _ => rfl⟩ | exact absurd e (by decide)
theorem OU3_q {c c2 c3 k k' : Nat} {r r' b th : Int32} (h : OU3 c c2 c3 k r b th) (h' : OU3 c c2 c3 k' r' b th) : k = k' ∧ (k = 0 → r = r') := by
  rcases h with ⟨rfl, rfl, rfl⟩ | ⟨rfl, rfl, rfl⟩ | ⟨rfl, rfl, rfl⟩ | ⟨rfl, rfl, rfl⟩ <;> rcases h' with ⟨rfl, e, rfl⟩ | ⟨rfl, e, rfl⟩ | ⟨rfl, e, rfl⟩ | ⟨rfl, e, rfl⟩ <;> first | exact ⟨rfl, fun _ => rfl⟩ | exact absurd e (by decide)
theorem OUm_q {R : Type} {k k' : Nat} {r r' b : R} {th : Int32} (h : (k = 0 ∧ th = 0 ∧ b = r) ∨ (k = 6 ∧ th = 1)) (h' : (k' = 0 ∧ th = 0 ∧ b = r') ∨ (k' = 6 ∧ th = 1)) : k = k' ∧ (k = 0 → r = r') := by
  rcases h with ⟨rfl, rfl, rfl⟩ | ⟨rfl, rfl⟩ <;> rcases h' with ⟨rfl, e, rfl⟩ | ⟨rfl, e⟩ <;> first | exact ⟨rfl, fun _ => rfl⟩ | exact absurd e (by decide) | exact ⟨rfl, fun z => absurd z (by decide)⟩
def qv_folderOf (q : Lad) (p1 : Int32) (p2 : Int32) : Nat × Int32 := match F_X7_folderOf 2000 q.1 q.2.1 q.2.2.1 q.2.2.2.1 q.2.2.2.2.1 0 0 0 0 0 p1 p2 with | some (k, r, _, _, _, _, _) => (k, r) | none => (0, 0)
theorem Q_folderOf (h : LL z hid ks ws ts cn ct' ch a) : ∃ k r y1 y2 y3 y4 y5, F_X7_folderOf 2000 z hid ks ws ts x1 x2 x3 x4 x5 p1 p2 = some (k, r, y1, y2, y3, y4, y5) ∧ k = (qv_folderOf (NRM z hid ks ws ts cn ct' ch) p1 p2).1 ∧ (k = 0 → r = (qv_folderOf (NRM z hid ks ws ts cn ct' ch) p1 p2).2) := by
  obtain ⟨kk, r, y1, y2, y3, y4, y5, b, th2, g2, f2, way2, e1, e2, e3⟩ := m_folderOf (fl := 2000) (th := 0) (g := 0) (f := 0) (way := fun _ => 0) (x1 := x1) (x2 := x2) (x3 := x3) (x4 := x4) (x5 := x5) (p1 := p1) (p2 := p2) (Nat.le_refl 2000) h
  obtain ⟨kk', r', y1', y2', y3', y4', y5', b', th2', g2', f2', way2', f1, f2, f3⟩ := m_folderOf (fl := 2000) (th := 0) (g := 0) (f := 0) (way := fun _ => 0) (x1 := 0) (x2 := 0) (x3 := 0) (x4 := 0) (x5 := 0) (p1 := p1) (p2 := p2) (Nat.le_refl 2000) (LL_cut h)
  have e := Option.some.inj (e2.symm.trans f2)
  obtain ⟨i0, e⟩ := Prod.mk.inj e
  obtain ⟨i1, e⟩ := Prod.mk.inj e
  rw [← i0, ← i1] at f3
  obtain ⟨hk, hr⟩ := OU2_q e3 f3
  refine ⟨kk, r, y1, y2, y3, y4, y5, e1, ?_, fun h0 => ?_⟩
  · show kk = (match F_X7_folderOf 2000 z hid (cut z ks) (cut z ws) (cut z ts) 0 0 0 0 0 p1 p2 with | some (k, r, _, _, _, _, _) => (k, r) | none => (0, 0) : Nat × Int32).1
    rw [f1]; exact hk
  · show r = (match F_X7_folderOf 2000 z hid (cut z ks) (cut z ws) (cut z ts) 0 0 0 0 0 p1 p2 with | some (k, r, _, _, _, _, _) => (k, r) | none => (0, 0) : Nat × Int32).2
    rw [f1]; exact hr h0
def qv_rank (q : Lad) (p1 : Int32) : Nat × Int32 := match F_X7_rank 2000 q.1 q.2.1 q.2.2.1 q.2.2.2.2.1 0 0 0 0 0 p1 with | some (k, r, _, _, _, _, _) => (k, r) | none => (0, 0)
theorem Q_rank (h : LL z hid ks ws ts cn ct' ch a) : ∃ k r y1 y2 y3 y4 y5, F_X7_rank 2000 z hid ks ts x1 x2 x3 x4 x5 p1 = some (k, r, y1, y2, y3, y4, y5) ∧ k = (qv_rank (NRM z hid ks ws ts cn ct' ch) p1).1 ∧ (k = 0 → r = (qv_rank (NRM z hid ks ws ts cn ct' ch) p1).2) := by
  obtain ⟨kk, r, y1, y2, y3, y4, y5, b, th2, e1, e2, e3⟩ := m_rank (fl := 2000) (th := 0) (x1 := x1) (x2 := x2) (x3 := x3) (x4 := x4) (x5 := x5) (p1 := p1) (Nat.le_refl 2000) h
  obtain ⟨kk', r', y1', y2', y3', y4', y5', b', th2', f1, f2, f3⟩ := m_rank (fl := 2000) (th := 0) (x1 := 0) (x2 := 0) (x3 := 0) (x4 := 0) (x5 := 0) (p1 := p1) (Nat.le_refl 2000) (LL_cut h)
  have e := Option.some.inj (e2.symm.trans f2)
  obtain ⟨i0, i1⟩ := Prod.mk.inj e
  rw [← i0, ← i1] at f3
  obtain ⟨hk, hr⟩ := OU1_q e3 f3
  refine ⟨kk, r, y1, y2, y3, y4, y5, e1, ?_, fun h0 => ?_⟩
  · show kk = (match F_X7_rank 2000 z hid (cut z ks) (cut z ts) 0 0 0 0 0 p1 with | some (k, r, _, _, _, _, _) => (k, r) | none => (0, 0) : Nat × Int32).1
    rw [f1]; exact hk
  · show r = (match F_X7_rank 2000 z hid (cut z ks) (cut z ts) 0 0 0 0 0 p1 with | some (k, r, _, _, _, _, _) => (k, r) | none => (0, 0) : Nat × Int32).2
    rw [f1]; exact hr h0
def qv_rankAgain (q : Lad) (p1 : Int32) : Nat × Int32 := match F_X7_rankAgain 2000 q.1 q.2.2.1 p1 with | some (k, r) => (k, r) | none => (0, 0)
theorem Q_rankAgain (h : LL z hid ks ws ts cn ct' ch a) : ∃ k r, F_X7_rankAgain 2000 z ks p1 = some (k, r) ∧ k = (qv_rankAgain (NRM z hid ks ws ts cn ct' ch) p1).1 ∧ (k = 0 → r = (qv_rankAgain (NRM z hid ks ws ts cn ct' ch) p1).2) := by
  obtain ⟨kk, r, b, th2, e1, e2, e3⟩ := m_rankAgain (fl := 2000) (th := 0) (p1 := p1) (Nat.le_refl 2000) h
  obtain ⟨kk', r', b', th2', f1, f2, f3⟩ := m_rankAgain (fl := 2000) (th := 0) (p1 := p1) (Nat.le_refl 2000) (LL_cut h)
  have e := Option.some.inj (e2.symm.trans f2)
  obtain ⟨i0, i1⟩ := Prod.mk.inj e
  rw [← i0, ← i1] at f3
  obtain ⟨hk, hr⟩ := OU1_q e3 f3
  refine ⟨kk, r, e1, ?_, fun h0 => ?_⟩
  · show kk = (match F_X7_rankAgain 2000 z (cut z ks) p1 with | some (k, r) => (k, r) | none => (0, 0) : Nat × Int32).1
    rw [f1]; exact hk
  · show r = (match F_X7_rankAgain 2000 z (cut z ks) p1 with | some (k, r) => (k, r) | none => (0, 0) : Nat × Int32).2
    rw [f1]; exact hr h0
def qv_keyAt (q : Lad) (p1 : Int32) : Nat × Int32 := match F_X7_keyAt 2000 q.1 q.2.2.1 p1 with | some (k, r) => (k, r) | none => (0, 0)
theorem Q_keyAt (h : LL z hid ks ws ts cn ct' ch a) : ∃ k r, F_X7_keyAt 2000 z ks p1 = some (k, r) ∧ k = (qv_keyAt (NRM z hid ks ws ts cn ct' ch) p1).1 ∧ (k = 0 → r = (qv_keyAt (NRM z hid ks ws ts cn ct' ch) p1).2) := by
  obtain ⟨kk, r, b, th2, e1, e2, e3⟩ := m_keyAt (fl := 2000) (th := 0) (p1 := p1) h
  obtain ⟨kk', r', b', th2', f1, f2, f3⟩ := m_keyAt (fl := 2000) (th := 0) (p1 := p1) (LL_cut h)
  have e := Option.some.inj (e2.symm.trans f2)
  obtain ⟨i0, i1⟩ := Prod.mk.inj e
  rw [← i0, ← i1] at f3
  obtain ⟨hk, hr⟩ := OU1_q e3 f3
  refine ⟨kk, r, e1, ?_, fun h0 => ?_⟩
  · show kk = (match F_X7_keyAt 2000 z (cut z ks) p1 with | some (k, r) => (k, r) | none => (0, 0) : Nat × Int32).1
    rw [f1]; exact hk
  · show r = (match F_X7_keyAt 2000 z (cut z ks) p1 with | some (k, r) => (k, r) | none => (0, 0) : Nat × Int32).2
    rw [f1]; exact hr h0
def qv_steps (q : Lad) (p1 : Int32) : Nat × Int32 := match F_X7_steps 2000 q.1 q.2.1 q.2.2.1 q.2.2.2.2.1 0 0 0 0 0 p1 with | some (k, r, _, _, _, _, _) => (k, r) | none => (0, 0)
theorem Q_steps (h : LL z hid ks ws ts cn ct' ch a) : ∃ k r y1 y2 y3 y4 y5, F_X7_steps 2000 z hid ks ts x1 x2 x3 x4 x5 p1 = some (k, r, y1, y2, y3, y4, y5) ∧ k = (qv_steps (NRM z hid ks ws ts cn ct' ch) p1).1 ∧ (k = 0 → r = (qv_steps (NRM z hid ks ws ts cn ct' ch) p1).2) := by
  obtain ⟨kk, r, y1, y2, y3, y4, y5, b, th2, g2, f2, way2, e1, e2, e3⟩ := m_steps (fl := 2000) (th := 0) (g := 0) (f := 0) (way := fun _ => 0) (x1 := x1) (x2 := x2) (x3 := x3) (x4 := x4) (x5 := x5) (p1 := p1) (Nat.le_refl 2000) h
  obtain ⟨kk', r', y1', y2', y3', y4', y5', b', th2', g2', f2', way2', f1, f2, f3⟩ := m_steps (fl := 2000) (th := 0) (g := 0) (f := 0) (way := fun _ => 0) (x1 := 0) (x2 := 0) (x3 := 0) (x4 := 0) (x5 := 0) (p1 := p1) (Nat.le_refl 2000) (LL_cut h)
  have e := Option.some.inj (e2.symm.trans f2)
  obtain ⟨i0, e⟩ := Prod.mk.inj e
  obtain ⟨i1, e⟩ := Prod.mk.inj e
  rw [← i0, ← i1] at f3
  obtain ⟨hk, hr⟩ := OU1_q e3 f3
  refine ⟨kk, r, y1, y2, y3, y4, y5, e1, ?_, fun h0 => ?_⟩
  · show kk = (match F_X7_steps 2000 z hid (cut z ks) (cut z ts) 0 0 0 0 0 p1 with | some (k, r, _, _, _, _, _) => (k, r) | none => (0, 0) : Nat × Int32).1
    rw [f1]; exact hk
  · show r = (match F_X7_steps 2000 z hid (cut z ks) (cut z ts) 0 0 0 0 0 p1 with | some (k, r, _, _, _, _, _) => (k, r) | none => (0, 0) : Nat × Int32).2
    rw [f1]; exact hr h0
def qv_stepsAgain (q : Lad) (p1 : Int32) : Nat × Int32 := match F_X7_stepsAgain 2000 q.1 q.2.1 q.2.2.1 q.2.2.2.2.1 p1 with | some (k, r) => (k, r) | none => (0, 0)
theorem Q_stepsAgain (h : LL z hid ks ws ts cn ct' ch a) : ∃ k r, F_X7_stepsAgain 2000 z hid ks ts p1 = some (k, r) ∧ k = (qv_stepsAgain (NRM z hid ks ws ts cn ct' ch) p1).1 ∧ (k = 0 → r = (qv_stepsAgain (NRM z hid ks ws ts cn ct' ch) p1).2) := by
  obtain ⟨kk, r, b, th2, g2, f2, way2, e1, e2, e3⟩ := m_stepsAgain (fl := 2000) (th := 0) (g := 0) (f := 0) (way := fun _ => 0) (p1 := p1) (Nat.le_refl 2000) h
  obtain ⟨kk', r', b', th2', g2', f2', way2', f1, f2, f3⟩ := m_stepsAgain (fl := 2000) (th := 0) (g := 0) (f := 0) (way := fun _ => 0) (p1 := p1) (Nat.le_refl 2000) (LL_cut h)
  have e := Option.some.inj (e2.symm.trans f2)
  obtain ⟨i0, e⟩ := Prod.mk.inj e
  obtain ⟨i1, e⟩ := Prod.mk.inj e
  rw [← i0, ← i1] at f3
  obtain ⟨hk, hr⟩ := OU1_q e3 f3
  refine ⟨kk, r, e1, ?_, fun h0 => ?_⟩
  · show kk = (match F_X7_stepsAgain 2000 z hid (cut z ks) (cut z ts) p1 with | some (k, r) => (k, r) | none => (0, 0) : Nat × Int32).1
    rw [f1]; exact hk
  · show r = (match F_X7_stepsAgain 2000 z hid (cut z ks) (cut z ts) p1 with | some (k, r) => (k, r) | none => (0, 0) : Nat × Int32).2
    rw [f1]; exact hr h0
def qv_placeOf (q : Lad) (p1 : Int32) (p2 : Int32) : Nat × Int32 := match F_X7_placeOf 2000 q.1 q.2.1 q.2.2.1 q.2.2.2.2.1 0 0 0 0 0 p1 p2 with | some (k, r, _, _, _, _, _) => (k, r) | none => (0, 0)
theorem Q_placeOf (h : LL z hid ks ws ts cn ct' ch a) : ∃ k r y1 y2 y3 y4 y5, F_X7_placeOf 2000 z hid ks ts x1 x2 x3 x4 x5 p1 p2 = some (k, r, y1, y2, y3, y4, y5) ∧ k = (qv_placeOf (NRM z hid ks ws ts cn ct' ch) p1 p2).1 ∧ (k = 0 → r = (qv_placeOf (NRM z hid ks ws ts cn ct' ch) p1 p2).2) := by
  obtain ⟨kk, r, y1, y2, y3, y4, y5, b, th2, g2, f2, way2, e1, e2, e3⟩ := m_placeOf (fl := 2000) (th := 0) (g := 0) (f := 0) (way := fun _ => 0) (x1 := x1) (x2 := x2) (x3 := x3) (x4 := x4) (x5 := x5) (p1 := p1) (p2 := p2) (Nat.le_refl 2000) h
  obtain ⟨kk', r', y1', y2', y3', y4', y5', b', th2', g2', f2', way2', f1, f2, f3⟩ := m_placeOf (fl := 2000) (th := 0) (g := 0) (f := 0) (way := fun _ => 0) (x1 := 0) (x2 := 0) (x3 := 0) (x4 := 0) (x5 := 0) (p1 := p1) (p2 := p2) (Nat.le_refl 2000) (LL_cut h)
  have e := Option.some.inj (e2.symm.trans f2)
  obtain ⟨i0, e⟩ := Prod.mk.inj e
  obtain ⟨i1, e⟩ := Prod.mk.inj e
  rw [← i0, ← i1] at f3
  obtain ⟨hk, hr⟩ := OU2_q e3 f3
  refine ⟨kk, r, y1, y2, y3, y4, y5, e1, ?_, fun h0 => ?_⟩
  · show kk = (match F_X7_placeOf 2000 z hid (cut z ks) (cut z ts) 0 0 0 0 0 p1 p2 with | some (k, r, _, _, _, _, _) => (k, r) | none => (0, 0) : Nat × Int32).1
    rw [f1]; exact hk
  · show r = (match F_X7_placeOf 2000 z hid (cut z ks) (cut z ts) 0 0 0 0 0 p1 p2 with | some (k, r, _, _, _, _, _) => (k, r) | none => (0, 0) : Nat × Int32).2
    rw [f1]; exact hr h0
def qv_falls (q : Lad) (p1 : Int32) : Nat × Int32 := match F_X7_falls 2000 q.1 q.2.1 q.2.2.1 q.2.2.2.2.1 0 0 0 0 0 p1 with | some (k, r, _, _, _, _, _) => (k, r) | none => (0, 0)
theorem Q_falls (h : LL z hid ks ws ts cn ct' ch a) : ∃ k r y1 y2 y3 y4 y5, F_X7_falls 2000 z hid ks ts x1 x2 x3 x4 x5 p1 = some (k, r, y1, y2, y3, y4, y5) ∧ k = (qv_falls (NRM z hid ks ws ts cn ct' ch) p1).1 ∧ (k = 0 → r = (qv_falls (NRM z hid ks ws ts cn ct' ch) p1).2) := by
  obtain ⟨kk, r, y1, y2, y3, y4, y5, b, th2, g2, f2, way2, e1, e2, e3⟩ := m_falls (fl := 2000) (th := 0) (g := 0) (f := 0) (way := fun _ => 0) (x1 := x1) (x2 := x2) (x3 := x3) (x4 := x4) (x5 := x5) (p1 := p1) (Nat.le_refl 2000) h
  obtain ⟨kk', r', y1', y2', y3', y4', y5', b', th2', g2', f2', way2', f1, f2, f3⟩ := m_falls (fl := 2000) (th := 0) (g := 0) (f := 0) (way := fun _ => 0) (x1 := 0) (x2 := 0) (x3 := 0) (x4 := 0) (x5 := 0) (p1 := p1) (Nat.le_refl 2000) (LL_cut h)
  have e := Option.some.inj (e2.symm.trans f2)
  obtain ⟨i0, e⟩ := Prod.mk.inj e
  obtain ⟨i1, e⟩ := Prod.mk.inj e
  rw [← i0, ← i1] at f3
  obtain ⟨hk, hr⟩ := OU1_q e3 f3
  refine ⟨kk, r, y1, y2, y3, y4, y5, e1, ?_, fun h0 => ?_⟩
  · show kk = (match F_X7_falls 2000 z hid (cut z ks) (cut z ts) 0 0 0 0 0 p1 with | some (k, r, _, _, _, _, _) => (k, r) | none => (0, 0) : Nat × Int32).1
    rw [f1]; exact hk
  · show r = (match F_X7_falls 2000 z hid (cut z ks) (cut z ts) 0 0 0 0 0 p1 with | some (k, r, _, _, _, _, _) => (k, r) | none => (0, 0) : Nat × Int32).2
    rw [f1]; exact hr h0
def qv_floor (q : Lad) (p1 : Int32) : Nat × Int32 := match F_X7_floor 2000 q.1 q.2.2.1 p1 with | some (k, r) => (k, r) | none => (0, 0)
theorem Q_floor (h : LL z hid ks ws ts cn ct' ch a) : ∃ k r, F_X7_floor 2000 z ks p1 = some (k, r) ∧ k = (qv_floor (NRM z hid ks ws ts cn ct' ch) p1).1 ∧ (k = 0 → r = (qv_floor (NRM z hid ks ws ts cn ct' ch) p1).2) := by
  obtain ⟨kk, r, b, th2, e1, e2, e3⟩ := m_floor (fl := 2000) (th := 0) (p1 := p1) (Nat.le_refl 2000) h
  obtain ⟨kk', r', b', th2', f1, f2, f3⟩ := m_floor (fl := 2000) (th := 0) (p1 := p1) (Nat.le_refl 2000) (LL_cut h)
  have e := Option.some.inj (e2.symm.trans f2)
  obtain ⟨i0, i1⟩ := Prod.mk.inj e
  rw [← i0, ← i1] at f3
  obtain ⟨hk, hr⟩ := OU2_q e3 f3
  refine ⟨kk, r, e1, ?_, fun h0 => ?_⟩
  · show kk = (match F_X7_floor 2000 z (cut z ks) p1 with | some (k, r) => (k, r) | none => (0, 0) : Nat × Int32).1
    rw [f1]; exact hk
  · show r = (match F_X7_floor 2000 z (cut z ks) p1 with | some (k, r) => (k, r) | none => (0, 0) : Nat × Int32).2
    rw [f1]; exact hr h0
def qv_ceiling (q : Lad) (p1 : Int32) : Nat × Int32 := match F_X7_ceiling 2000 q.1 q.2.2.1 p1 with | some (k, r) => (k, r) | none => (0, 0)
theorem Q_ceiling (h : LL z hid ks ws ts cn ct' ch a) : ∃ k r, F_X7_ceiling 2000 z ks p1 = some (k, r) ∧ k = (qv_ceiling (NRM z hid ks ws ts cn ct' ch) p1).1 ∧ (k = 0 → r = (qv_ceiling (NRM z hid ks ws ts cn ct' ch) p1).2) := by
  obtain ⟨kk, r, b, th2, e1, e2, e3⟩ := m_ceiling (fl := 2000) (th := 0) (p1 := p1) (Nat.le_refl 2000) h
  obtain ⟨kk', r', b', th2', f1, f2, f3⟩ := m_ceiling (fl := 2000) (th := 0) (p1 := p1) (Nat.le_refl 2000) (LL_cut h)
  have e := Option.some.inj (e2.symm.trans f2)
  obtain ⟨i0, i1⟩ := Prod.mk.inj e
  rw [← i0, ← i1] at f3
  obtain ⟨hk, hr⟩ := OU2_q e3 f3
  refine ⟨kk, r, e1, ?_, fun h0 => ?_⟩
  · show kk = (match F_X7_ceiling 2000 z (cut z ks) p1 with | some (k, r) => (k, r) | none => (0, 0) : Nat × Int32).1
    rw [f1]; exact hk
  · show r = (match F_X7_ceiling 2000 z (cut z ks) p1 with | some (k, r) => (k, r) | none => (0, 0) : Nat × Int32).2
    rw [f1]; exact hr h0
def qv_count (q : Lad) (p1 : Int32) (p2 : Int32) : Nat × Int32 := match F_X7_count 2000 q.1 q.2.1 q.2.2.1 q.2.2.2.2.1 0 0 0 0 0 p1 p2 with | some (k, r, _, _, _, _, _) => (k, r) | none => (0, 0)
theorem Q_count (h : LL z hid ks ws ts cn ct' ch a) : ∃ k r y1 y2 y3 y4 y5, F_X7_count 2000 z hid ks ts x1 x2 x3 x4 x5 p1 p2 = some (k, r, y1, y2, y3, y4, y5) ∧ k = (qv_count (NRM z hid ks ws ts cn ct' ch) p1 p2).1 ∧ (k = 0 → r = (qv_count (NRM z hid ks ws ts cn ct' ch) p1 p2).2) := by
  obtain ⟨kk, r, y1, y2, y3, y4, y5, b, th2, e1, e2, e3⟩ := m_count (fl := 2000) (th := 0) (x1 := x1) (x2 := x2) (x3 := x3) (x4 := x4) (x5 := x5) (p1 := p1) (p2 := p2) (Nat.le_refl 2000) h
  obtain ⟨kk', r', y1', y2', y3', y4', y5', b', th2', f1, f2, f3⟩ := m_count (fl := 2000) (th := 0) (x1 := 0) (x2 := 0) (x3 := 0) (x4 := 0) (x5 := 0) (p1 := p1) (p2 := p2) (Nat.le_refl 2000) (LL_cut h)
  have e := Option.some.inj (e2.symm.trans f2)
  obtain ⟨i0, i1⟩ := Prod.mk.inj e
  rw [← i0, ← i1] at f3
  obtain ⟨hk, hr⟩ := OU1_q e3 f3
  refine ⟨kk, r, y1, y2, y3, y4, y5, e1, ?_, fun h0 => ?_⟩
  · show kk = (match F_X7_count 2000 z hid (cut z ks) (cut z ts) 0 0 0 0 0 p1 p2 with | some (k, r, _, _, _, _, _) => (k, r) | none => (0, 0) : Nat × Int32).1
    rw [f1]; exact hk
  · show r = (match F_X7_count 2000 z hid (cut z ks) (cut z ts) 0 0 0 0 0 p1 p2 with | some (k, r, _, _, _, _, _) => (k, r) | none => (0, 0) : Nat × Int32).2
    rw [f1]; exact hr h0
def qv_countAgain (q : Lad) (p1 : Int32) (p2 : Int32) : Nat × Int32 := match F_X7_countAgain 2000 q.1 q.2.2.1 p1 p2 with | some (k, r) => (k, r) | none => (0, 0)
theorem Q_countAgain (h : LL z hid ks ws ts cn ct' ch a) : ∃ k r, F_X7_countAgain 2000 z ks p1 p2 = some (k, r) ∧ k = (qv_countAgain (NRM z hid ks ws ts cn ct' ch) p1 p2).1 ∧ (k = 0 → r = (qv_countAgain (NRM z hid ks ws ts cn ct' ch) p1 p2).2) := by
  obtain ⟨kk, r, b, th2, e1, e2, e3⟩ := m_countAgain (fl := 2000) (th := 0) (p1 := p1) (p2 := p2) (Nat.le_refl 2000) h
  obtain ⟨kk', r', b', th2', f1, f2, f3⟩ := m_countAgain (fl := 2000) (th := 0) (p1 := p1) (p2 := p2) (Nat.le_refl 2000) (LL_cut h)
  have e := Option.some.inj (e2.symm.trans f2)
  obtain ⟨i0, i1⟩ := Prod.mk.inj e
  rw [← i0, ← i1] at f3
  obtain ⟨hk, hr⟩ := OU1_q e3 f3
  refine ⟨kk, r, e1, ?_, fun h0 => ?_⟩
  · show kk = (match F_X7_countAgain 2000 z (cut z ks) p1 p2 with | some (k, r) => (k, r) | none => (0, 0) : Nat × Int32).1
    rw [f1]; exact hk
  · show r = (match F_X7_countAgain 2000 z (cut z ks) p1 p2 with | some (k, r) => (k, r) | none => (0, 0) : Nat × Int32).2
    rw [f1]; exact hr h0
def qv_weightIn (q : Lad) (p1 : Int32) (p2 : Int32) : Nat × Int32 := match F_X7_weightIn 2000 q.1 q.2.2.1 q.2.2.2.1 p1 p2 with | some (k, r) => (k, r) | none => (0, 0)
theorem Q_weightIn (h : LL z hid ks ws ts cn ct' ch a) : ∃ k r, F_X7_weightIn 2000 z ks ws p1 p2 = some (k, r) ∧ k = (qv_weightIn (NRM z hid ks ws ts cn ct' ch) p1 p2).1 ∧ (k = 0 → r = (qv_weightIn (NRM z hid ks ws ts cn ct' ch) p1 p2).2) := by
  obtain ⟨kk, r, b, th2, e1, e2, e3⟩ := m_weightIn (fl := 2000) (th := 0) (p1 := p1) (p2 := p2) (Nat.le_refl 2000) h
  obtain ⟨kk', r', b', th2', f1, f2, f3⟩ := m_weightIn (fl := 2000) (th := 0) (p1 := p1) (p2 := p2) (Nat.le_refl 2000) (LL_cut h)
  have e := Option.some.inj (e2.symm.trans f2)
  obtain ⟨i0, i1⟩ := Prod.mk.inj e
  rw [← i0, ← i1] at f3
  obtain ⟨hk, hr⟩ := OU1_q e3 f3
  refine ⟨kk, r, e1, ?_, fun h0 => ?_⟩
  · show kk = (match F_X7_weightIn 2000 z (cut z ks) (cut z ws) p1 p2 with | some (k, r) => (k, r) | none => (0, 0) : Nat × Int32).1
    rw [f1]; exact hk
  · show r = (match F_X7_weightIn 2000 z (cut z ks) (cut z ws) p1 p2 with | some (k, r) => (k, r) | none => (0, 0) : Nat × Int32).2
    rw [f1]; exact hr h0
def qv_heaviestIn (q : Lad) (p1 : Int32) (p2 : Int32) : Nat × Int32 := match F_X7_heaviestIn 2000 q.1 q.2.2.1 q.2.2.2.1 p1 p2 with | some (k, r) => (k, r) | none => (0, 0)
theorem Q_heaviestIn (h : LL z hid ks ws ts cn ct' ch a) : ∃ k r, F_X7_heaviestIn 2000 z ks ws p1 p2 = some (k, r) ∧ k = (qv_heaviestIn (NRM z hid ks ws ts cn ct' ch) p1 p2).1 ∧ (k = 0 → r = (qv_heaviestIn (NRM z hid ks ws ts cn ct' ch) p1 p2).2) := by
  obtain ⟨kk, r, b, th2, e1, e2, e3⟩ := m_heaviestIn (fl := 2000) (th := 0) (p1 := p1) (p2 := p2) (Nat.le_refl 2000) h
  obtain ⟨kk', r', b', th2', f1, f2, f3⟩ := m_heaviestIn (fl := 2000) (th := 0) (p1 := p1) (p2 := p2) (Nat.le_refl 2000) (LL_cut h)
  have e := Option.some.inj (e2.symm.trans f2)
  obtain ⟨i0, i1⟩ := Prod.mk.inj e
  rw [← i0, ← i1] at f3
  obtain ⟨hk, hr⟩ := OU2_q e3 f3
  refine ⟨kk, r, e1, ?_, fun h0 => ?_⟩
  · show kk = (match F_X7_heaviestIn 2000 z (cut z ks) (cut z ws) p1 p2 with | some (k, r) => (k, r) | none => (0, 0) : Nat × Int32).1
    rw [f1]; exact hk
  · show r = (match F_X7_heaviestIn 2000 z (cut z ks) (cut z ws) p1 p2 with | some (k, r) => (k, r) | none => (0, 0) : Nat × Int32).2
    rw [f1]; exact hr h0
def qv_levelSize (q : Lad) (p1 : Int32) : Nat × Int32 := match F_X7_levelSize 2000 q.1 q.2.2.2.2.1 p1 with | some (k, r) => (k, r) | none => (0, 0)
theorem Q_levelSize (h : LL z hid ks ws ts cn ct' ch a) : ∃ k r, F_X7_levelSize 2000 z ts p1 = some (k, r) ∧ k = (qv_levelSize (NRM z hid ks ws ts cn ct' ch) p1).1 ∧ (k = 0 → r = (qv_levelSize (NRM z hid ks ws ts cn ct' ch) p1).2) := by
  obtain ⟨kk, r, b, th2, e1, e2, e3⟩ := m_levelSize (fl := 2000) (th := 0) (p1 := p1) (Nat.le_refl 2000) h
  obtain ⟨kk', r', b', th2', f1, f2, f3⟩ := m_levelSize (fl := 2000) (th := 0) (p1 := p1) (Nat.le_refl 2000) (LL_cut h)
  have e := Option.some.inj (e2.symm.trans f2)
  obtain ⟨i0, i1⟩ := Prod.mk.inj e
  rw [← i0, ← i1] at f3
  obtain ⟨hk, hr⟩ := OU1_q e3 f3
  refine ⟨kk, r, e1, ?_, fun h0 => ?_⟩
  · show kk = (match F_X7_levelSize 2000 z (cut z ts) p1 with | some (k, r) => (k, r) | none => (0, 0) : Nat × Int32).1
    rw [f1]; exact hk
  · show r = (match F_X7_levelSize 2000 z (cut z ts) p1 with | some (k, r) => (k, r) | none => (0, 0) : Nat × Int32).2
    rw [f1]; exact hr h0
def qv_levelAt (q : Lad) (p1 : Int32) (p2 : Int32) : Nat × Int32 := match F_X7_levelAt 2000 q.1 q.2.2.1 q.2.2.2.2.1 p1 p2 with | some (k, r) => (k, r) | none => (0, 0)
theorem Q_levelAt (h : LL z hid ks ws ts cn ct' ch a) : ∃ k r, F_X7_levelAt 2000 z ks ts p1 p2 = some (k, r) ∧ k = (qv_levelAt (NRM z hid ks ws ts cn ct' ch) p1 p2).1 ∧ (k = 0 → r = (qv_levelAt (NRM z hid ks ws ts cn ct' ch) p1 p2).2) := by
  obtain ⟨kk, r, b, th2, e1, e2, e3⟩ := m_levelAt (fl := 2000) (th := 0) (p1 := p1) (p2 := p2) (Nat.le_refl 2000) h
  obtain ⟨kk', r', b', th2', f1, f2, f3⟩ := m_levelAt (fl := 2000) (th := 0) (p1 := p1) (p2 := p2) (Nat.le_refl 2000) (LL_cut h)
  have e := Option.some.inj (e2.symm.trans f2)
  obtain ⟨i0, i1⟩ := Prod.mk.inj e
  rw [← i0, ← i1] at f3
  obtain ⟨hk, hr⟩ := OU2_q e3 f3
  refine ⟨kk, r, e1, ?_, fun h0 => ?_⟩
  · show kk = (match F_X7_levelAt 2000 z (cut z ks) (cut z ts) p1 p2 with | some (k, r) => (k, r) | none => (0, 0) : Nat × Int32).1
    rw [f1]; exact hk
  · show r = (match F_X7_levelAt 2000 z (cut z ks) (cut z ts) p1 p2 with | some (k, r) => (k, r) | none => (0, 0) : Nat × Int32).2
    rw [f1]; exact hr h0
def qv_span (q : Lad) (p1 : Int32) (p2 : Int32) : Nat × Int32 := match F_X7_span 2000 q.1 q.2.2.1 q.2.2.2.2.1 p1 p2 with | some (k, r) => (k, r) | none => (0, 0)
theorem Q_span (h : LL z hid ks ws ts cn ct' ch a) : ∃ k r, F_X7_span 2000 z ks ts p1 p2 = some (k, r) ∧ k = (qv_span (NRM z hid ks ws ts cn ct' ch) p1 p2).1 ∧ (k = 0 → r = (qv_span (NRM z hid ks ws ts cn ct' ch) p1 p2).2) := by
  obtain ⟨kk, r, b, th2, e1, e2, e3⟩ := m_span (fl := 2000) (th := 0) (p1 := p1) (p2 := p2) (Nat.le_refl 2000) h
  obtain ⟨kk', r', b', th2', f1, f2, f3⟩ := m_span (fl := 2000) (th := 0) (p1 := p1) (p2 := p2) (Nat.le_refl 2000) (LL_cut h)
  have e := Option.some.inj (e2.symm.trans f2)
  obtain ⟨i0, i1⟩ := Prod.mk.inj e
  rw [← i0, ← i1] at f3
  obtain ⟨hk, hr⟩ := OU3_q e3 f3
  refine ⟨kk, r, e1, ?_, fun h0 => ?_⟩
  · show kk = (match F_X7_span 2000 z (cut z ks) (cut z ts) p1 p2 with | some (k, r) => (k, r) | none => (0, 0) : Nat × Int32).1
    rw [f1]; exact hk
  · show r = (match F_X7_span 2000 z (cut z ks) (cut z ts) p1 p2 with | some (k, r) => (k, r) | none => (0, 0) : Nat × Int32).2
    rw [f1]; exact hr h0
def qv_headSpan (q : Lad) (p1 : Int32) : Nat × Int32 := match F_X7_headSpan 2000 q.1 q.2.2.2.2.1 p1 with | some (k, r) => (k, r) | none => (0, 0)
theorem Q_headSpan (h : LL z hid ks ws ts cn ct' ch a) : ∃ k r, F_X7_headSpan 2000 z ts p1 = some (k, r) ∧ k = (qv_headSpan (NRM z hid ks ws ts cn ct' ch) p1).1 ∧ (k = 0 → r = (qv_headSpan (NRM z hid ks ws ts cn ct' ch) p1).2) := by
  obtain ⟨kk, r, b, th2, e1, e2, e3⟩ := m_headSpan (fl := 2000) (th := 0) (p1 := p1) (Nat.le_refl 2000) h
  obtain ⟨kk', r', b', th2', f1, f2, f3⟩ := m_headSpan (fl := 2000) (th := 0) (p1 := p1) (Nat.le_refl 2000) (LL_cut h)
  have e := Option.some.inj (e2.symm.trans f2)
  obtain ⟨i0, i1⟩ := Prod.mk.inj e
  rw [← i0, ← i1] at f3
  obtain ⟨hk, hr⟩ := OU1_q e3 f3
  refine ⟨kk, r, e1, ?_, fun h0 => ?_⟩
  · show kk = (match F_X7_headSpan 2000 z (cut z ts) p1 with | some (k, r) => (k, r) | none => (0, 0) : Nat × Int32).1
    rw [f1]; exact hk
  · show r = (match F_X7_headSpan 2000 z (cut z ts) p1 with | some (k, r) => (k, r) | none => (0, 0) : Nat × Int32).2
    rw [f1]; exact hr h0
def qv_isForgotten (q : Lad) (p1 : Int32) : Nat × Int32 := match F_X7_isForgotten 2000 q.2.1 p1 with | some (k, r) => (k, r) | none => (0, 0)
theorem Q_isForgotten (h : LL z hid ks ws ts cn ct' ch a) : ∃ k r, F_X7_isForgotten 2000 hid p1 = some (k, r) ∧ k = (qv_isForgotten (NRM z hid ks ws ts cn ct' ch) p1).1 ∧ (k = 0 → r = (qv_isForgotten (NRM z hid ks ws ts cn ct' ch) p1).2) := by
  obtain ⟨kk, r, b, th2, e1, e2, e3⟩ := m_isForgotten (fl := 2000) (th := 0) (p1 := p1) h
  obtain ⟨kk', r', b', th2', f1, f2, f3⟩ := m_isForgotten (fl := 2000) (th := 0) (p1 := p1) (LL_cut h)
  have e := Option.some.inj (e2.symm.trans f2)
  obtain ⟨i0, i1⟩ := Prod.mk.inj e
  rw [← i0, ← i1] at f3
  obtain ⟨hk, hr⟩ := OU1_q e3 f3
  refine ⟨kk, r, e1, ?_, fun h0 => ?_⟩
  · show kk = (match F_X7_isForgotten 2000 hid p1 with | some (k, r) => (k, r) | none => (0, 0) : Nat × Int32).1
    rw [f1]; exact hk
  · show r = (match F_X7_isForgotten 2000 hid p1 with | some (k, r) => (k, r) | none => (0, 0) : Nat × Int32).2
    rw [f1]; exact hr h0
def qv_longestSearch (q : Lad) : Nat × Int32 := match F_X7_longestSearch 2000 q.1 q.2.1 q.2.2.1 q.2.2.2.2.1 0 0 0 0 0 with | some (k, r, _, _, _, _, _) => (k, r) | none => (0, 0)
theorem Q_longestSearch (h : LL z hid ks ws ts cn ct' ch a) : ∃ k r y1 y2 y3 y4 y5, F_X7_longestSearch 2000 z hid ks ts x1 x2 x3 x4 x5 = some (k, r, y1, y2, y3, y4, y5) ∧ k = (qv_longestSearch (NRM z hid ks ws ts cn ct' ch)).1 ∧ (k = 0 → r = (qv_longestSearch (NRM z hid ks ws ts cn ct' ch)).2) := by
  obtain ⟨kk, r, y1, y2, y3, y4, y5, b, th2, g2, f2, way2, e1, e2, e3⟩ := m_longestSearch (fl := 2000) (th := 0) (g := 0) (f := 0) (way := fun _ => 0) (x1 := x1) (x2 := x2) (x3 := x3) (x4 := x4) (x5 := x5) (Nat.le_refl 2000) h
  obtain ⟨kk', r', y1', y2', y3', y4', y5', b', th2', g2', f2', way2', f1, f2, f3⟩ := m_longestSearch (fl := 2000) (th := 0) (g := 0) (f := 0) (way := fun _ => 0) (x1 := 0) (x2 := 0) (x3 := 0) (x4 := 0) (x5 := 0) (Nat.le_refl 2000) (LL_cut h)
  have e := Option.some.inj (e2.symm.trans f2)
  obtain ⟨i0, e⟩ := Prod.mk.inj e
  obtain ⟨i1, e⟩ := Prod.mk.inj e
  rw [← i0, ← i1] at f3
  obtain ⟨hk, hr⟩ := OU1_q e3 f3
  refine ⟨kk, r, y1, y2, y3, y4, y5, e1, ?_, fun h0 => ?_⟩
  · show kk = (match F_X7_longestSearch 2000 z hid (cut z ks) (cut z ts) 0 0 0 0 0 with | some (k, r, _, _, _, _, _) => (k, r) | none => (0, 0) : Nat × Int32).1
    rw [f1]; exact hk
  · show r = (match F_X7_longestSearch 2000 z hid (cut z ks) (cut z ts) 0 0 0 0 0 with | some (k, r, _, _, _, _, _) => (k, r) | none => (0, 0) : Nat × Int32).2
    rw [f1]; exact hr h0
def qv_account (q : Lad) (u : Int32) (le : Int32) (p1 : Int32) : Nat × Int32 := match F_X7_account 2000 q.1 q.2.1 q.2.2.2.1 q.2.2.2.2.1 q.2.2.2.2.2.1 q.2.2.2.2.2.2.1 q.2.2.2.2.2.2.2 le u p1 with | some (k, r) => (k, r) | none => (0, 0)
theorem Q_account (h : LL z hid ks ws ts cn ct' ch a) {u : Int32} {le : Int32} : ∃ k r, F_X7_account 2000 z hid ws ts cn ct' ch le u p1 = some (k, r) ∧ k = (qv_account (NRM z hid ks ws ts cn ct' ch) u le p1).1 ∧ (k = 0 → r = (qv_account (NRM z hid ks ws ts cn ct' ch) u le p1).2) := by
  obtain ⟨kk, r, b, th2, e1, e2, e3⟩ := m_account (fl := 2000) (th := 0) (le := le) (u := u) (p1 := p1) (Nat.le_refl 2000) h
  obtain ⟨kk', r', b', th2', f1, f2, f3⟩ := m_account (fl := 2000) (th := 0) (le := le) (u := u) (p1 := p1) (Nat.le_refl 2000) (LL_cut h)
  have e := Option.some.inj (e2.symm.trans f2)
  obtain ⟨i0, i1⟩ := Prod.mk.inj e
  rw [← i0, ← i1] at f3
  obtain ⟨hk, hr⟩ := OU1_q e3 f3
  refine ⟨kk, r, e1, ?_, fun h0 => ?_⟩
  · show kk = (match F_X7_account 2000 z hid (cut z ws) (cut z ts) cn ct' ch le u p1 with | some (k, r) => (k, r) | none => (0, 0) : Nat × Int32).1
    rw [f1]; exact hk
  · show r = (match F_X7_account 2000 z hid (cut z ws) (cut z ts) cn ct' ch le u p1 with | some (k, r) => (k, r) | none => (0, 0) : Nat × Int32).2
    rw [f1]; exact hr h0
def qv_meanSteps (q : Lad) : Nat × UInt64 := match F_X7_meanSteps 2000 q.1 q.2.1 q.2.2.1 q.2.2.2.2.1 0 0 0 0 0 with | some (k, r, _, _, _, _, _) => (k, r) | none => (0, 0)
theorem Q_meanSteps (h : LL z hid ks ws ts cn ct' ch a) : ∃ k r y1 y2 y3 y4 y5, F_X7_meanSteps 2000 z hid ks ts x1 x2 x3 x4 x5 = some (k, r, y1, y2, y3, y4, y5) ∧ k = (qv_meanSteps (NRM z hid ks ws ts cn ct' ch)).1 ∧ (k = 0 → r = (qv_meanSteps (NRM z hid ks ws ts cn ct' ch)).2) := by
  obtain ⟨kk, r, y1, y2, y3, y4, y5, b, th2, g2, f2, way2, e1, e2, e3⟩ := m_meanSteps (fl := 2000) (th := 0) (g := 0) (f := 0) (way := fun _ => 0) (x1 := x1) (x2 := x2) (x3 := x3) (x4 := x4) (x5 := x5) (Nat.le_refl 2000) h
  obtain ⟨kk', r', y1', y2', y3', y4', y5', b', th2', g2', f2', way2', f1, f2, f3⟩ := m_meanSteps (fl := 2000) (th := 0) (g := 0) (f := 0) (way := fun _ => 0) (x1 := 0) (x2 := 0) (x3 := 0) (x4 := 0) (x5 := 0) (Nat.le_refl 2000) (LL_cut h)
  have e := Option.some.inj (e2.symm.trans f2)
  obtain ⟨i0, e⟩ := Prod.mk.inj e
  obtain ⟨i1, e⟩ := Prod.mk.inj e
  rw [← i0, ← i1] at f3
  obtain ⟨hk, hr⟩ := OUm_q e3 f3
  refine ⟨kk, r, y1, y2, y3, y4, y5, e1, ?_, fun h0 => ?_⟩
  · show kk = (match F_X7_meanSteps 2000 z hid (cut z ks) (cut z ts) 0 0 0 0 0 with | some (k, r, _, _, _, _, _) => (k, r) | none => (0, 0) : Nat × UInt64).1
    rw [f1]; exact hk
  · show r = (match F_X7_meanSteps 2000 z hid (cut z ks) (cut z ts) 0 0 0 0 0 with | some (k, r, _, _, _, _, _) => (k, r) | none => (0, 0) : Nat × UInt64).2
    rw [f1]; exact hr h0
def qv_meanRungs (q : Lad) : Nat × UInt32 := match F_X7_meanRungs 2000 q.1 q.2.2.2.2.1 with | some (k, r) => (k, r) | none => (0, 0)
theorem Q_meanRungs (h : LL z hid ks ws ts cn ct' ch a) : ∃ k r, F_X7_meanRungs 2000 z ts = some (k, r) ∧ k = (qv_meanRungs (NRM z hid ks ws ts cn ct' ch)).1 ∧ (k = 0 → r = (qv_meanRungs (NRM z hid ks ws ts cn ct' ch)).2) := by
  obtain ⟨kk, r, b, th2, e1, e2, e3⟩ := m_meanRungs (fl := 2000) (th := 0) (Nat.le_refl 2000) h
  obtain ⟨kk', r', b', th2', f1, f2, f3⟩ := m_meanRungs (fl := 2000) (th := 0) (Nat.le_refl 2000) (LL_cut h)
  have e := Option.some.inj (e2.symm.trans f2)
  obtain ⟨i0, i1⟩ := Prod.mk.inj e
  rw [← i0, ← i1] at f3
  obtain ⟨hk, hr⟩ := OUm_q e3 f3
  refine ⟨kk, r, e1, ?_, fun h0 => ?_⟩
  · show kk = (match F_X7_meanRungs 2000 z (cut z ts) with | some (k, r) => (k, r) | none => (0, 0) : Nat × UInt32).1
    rw [f1]; exact hk
  · show r = (match F_X7_meanRungs 2000 z (cut z ts) with | some (k, r) => (k, r) | none => (0, 0) : Nat × UInt32).2
    rw [f1]; exact hr h0
def qv_nextRungs (q : Lad) : Int32 := match F_X7_nextRungs 2000 q.2.2.2.2.2.1 with | some r => r | none => 0
theorem Q_nextRungs (h : LL z hid ks ws ts cn ct' ch a) : F_X7_nextRungs 2000 cn = some (qv_nextRungs (NRM z hid ks ws ts cn ct' ch)) := by
  obtain ⟨n, h0, h1, h2⟩ := h
  obtain ⟨r, a2, e1, e2, e3⟩ := r_nextRungs (fl := 2000) (thr := 0) (Nat.le_refl 2000) h2
  show _ = some (match F_X7_nextRungs 2000 cn with | some r => r | none => 0)
  rw [e1]
def qv_reason (rs dt ix p1 : Int32) : Nat × Int32 := match F_X7_reason 2000 rs dt ix p1 with | some (k, r) => (k, r) | none => (0, 0)
theorem Q_reason {rs dt ix : Int32} : F_X7_reason 2000 rs dt ix p1 = some (qv_reason rs dt ix p1) := by
  obtain ⟨kk, r, b, th2, e1, -, -⟩ := m_reason (fl := 2000) (rs := rs) (dt := dt) (ix := ix) (th := 0) (p1 := p1)
  unfold qv_reason
  rw [e1]
