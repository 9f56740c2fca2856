/-! which exceptions a question may throw; what the law is told -/
variable {n : Nat} {ks ws ts a : Nat → Int32} {hid cn ct' ch z : Int32} {p1 p2 u le : Int32} {q : Lad}
theorem K_folderOf (hq : GL q) : (qv_folderOf q p1 p2).1 = 0 ∨ (qv_folderOf q p1 p2).1 = 1 ∨ (qv_folderOf q p1 p2).1 = 2 := by
  obtain ⟨⟨a, h⟩, -⟩ := hq
  obtain ⟨kk, r, y1, y2, y3, y4, y5, b, th2, g2, f2, way2, f1, -, f3⟩ := m_folderOf (fl := 2000) (th := 0) (g := 0) (f := 0) (way := fun _ => 0) (x1 := 0) (x2 := 0) (x3 := 0) (x4 := 0) (x5 := 0) (p1 := p1) (p2 := p2) (Nat.le_refl 2000) h
  have e : (qv_folderOf q p1 p2) = (kk, r) := by
    show (match F_X7_folderOf 2000 q.1 q.2.1 q.2.2.1 q.2.2.2.1 q.2.2.2.2.1 0 0 0 0 0 p1 p2 with | some (k, r, _, _, _, _, _) => (k, r) | none => (0, 0) : Nat × Int32) = _
    rw [f1]
  rw [e]
  rcases f3 with ⟨h, -, -⟩ | ⟨h, -, -⟩ | ⟨h, -, -⟩
  · exact Or.inl h
  · exact Or.inr (Or.inl h)
  · exact Or.inr (Or.inr (h))
def lq_folderOf (q : Lad) (p1 : Int32) (p2 : Int32) : Int32 := if (qv_folderOf q p1 p2).1 = 0 then (qv_folderOf q p1 p2).2 else if (qv_folderOf q p1 p2).1 = 1 then -1001 else -1002
theorem K_rank (hq : GL q) : (qv_rank q p1).1 = 0 ∨ (qv_rank q p1).1 = 1 := by
  obtain ⟨⟨a, h⟩, -⟩ := hq
  obtain ⟨kk, r, y1, y2, y3, y4, y5, b, th2, f1, -, f3⟩ := m_rank (fl := 2000) (th := 0) (x1 := 0) (x2 := 0) (x3 := 0) (x4 := 0) (x5 := 0) (p1 := p1) (Nat.le_refl 2000) h
  have e : (qv_rank q p1) = (kk, r) := by
    show (match F_X7_rank 2000 q.1 q.2.1 q.2.2.1 q.2.2.2.2.1 0 0 0 0 0 p1 with | some (k, r, _, _, _, _, _) => (k, r) | none => (0, 0) : Nat × Int32) = _
    rw [f1]
  rw [e]
  rcases f3 with ⟨h, -, -⟩ | ⟨h, -, -⟩
  · exact Or.inl h
  · exact Or.inr (h)
def lq_rank (q : Lad) (p1 : Int32) : Int32 := if (qv_rank q p1).1 = 0 then (qv_rank q p1).2 else -1001
theorem K_rankAgain (hq : GL q) : (qv_rankAgain q p1).1 = 0 ∨ (qv_rankAgain q p1).1 = 1 := by
  obtain ⟨⟨a, h⟩, -⟩ := hq
  obtain ⟨kk, r, b, th2, f1, -, f3⟩ := m_rankAgain (fl := 2000) (th := 0) (p1 := p1) (Nat.le_refl 2000) h
  have e : (qv_rankAgain q p1) = (kk, r) := by
    show (match F_X7_rankAgain 2000 q.1 q.2.2.1 p1 with | some (k, r) => (k, r) | none => (0, 0) : Nat × Int32) = _
    rw [f1]
  rw [e]
  rcases f3 with ⟨h, -, -⟩ | ⟨h, -, -⟩
  · exact Or.inl h
  · exact Or.inr (h)
def lq_rankAgain (q : Lad) (p1 : Int32) : Int32 := if (qv_rankAgain q p1).1 = 0 then (qv_rankAgain q p1).2 else -1001
theorem K_keyAt (hq : GL q) : (qv_keyAt q p1).1 = 0 ∨ (qv_keyAt q p1).1 = 2 := by
  obtain ⟨⟨a, h⟩, -⟩ := hq
  obtain ⟨kk, r, b, th2, f1, -, f3⟩ := m_keyAt (fl := 2000) (th := 0) (p1 := p1) h
  have e : (qv_keyAt q p1) = (kk, r) := by
    show (match F_X7_keyAt 2000 q.1 q.2.2.1 p1 with | some (k, r) => (k, r) | none => (0, 0) : Nat × Int32) = _
    rw [f1]
  rw [e]
  rcases f3 with ⟨h, -, -⟩ | ⟨h, -, -⟩
  · exact Or.inl h
  · exact Or.inr (h)
def lq_keyAt (q : Lad) (p1 : Int32) : Int32 := if (qv_keyAt q p1).1 = 0 then (qv_keyAt q p1).2 else -1001
theorem K_steps (hq : GL q) : (qv_steps q p1).1 = 0 ∨ (qv_steps q p1).1 = 1 := by
  obtain ⟨⟨a, h⟩, -⟩ := hq
  obtain ⟨kk, r, y1, y2, y3, y4, y5, b, th2, g2, f2, way2, f1, -, f3⟩ := m_steps (fl := 2000) (th := 0) (g := 0) (f := 0) (way := fun _ => 0) (x1 := 0) (x2 := 0) (x3 := 0) (x4 := 0) (x5 := 0) (p1 := p1) (Nat.le_refl 2000) h
  have e : (qv_steps q p1) = (kk, r) := by
    show (match F_X7_steps 2000 q.1 q.2.1 q.2.2.1 q.2.2.2.2.1 0 0 0 0 0 p1 with | some (k, r, _, _, _, _, _) => (k, r) | none => (0, 0) : Nat × Int32) = _
    rw [f1]
  rw [e]
  rcases f3 with ⟨h, -, -⟩ | ⟨h, -, -⟩
  · exact Or.inl h
  · exact Or.inr (h)
def lq_steps (q : Lad) (p1 : Int32) : Int32 := if (qv_steps q p1).1 = 0 then (qv_steps q p1).2 else -1001
theorem K_stepsAgain (hq : GL q) : (qv_stepsAgain q p1).1 = 0 ∨ (qv_stepsAgain q p1).1 = 1 := by
  obtain ⟨⟨a, h⟩, -⟩ := hq
  obtain ⟨kk, r, b, th2, g2, f2, way2, f1, -, f3⟩ := m_stepsAgain (fl := 2000) (th := 0) (g := 0) (f := 0) (way := fun _ => 0) (p1 := p1) (Nat.le_refl 2000) h
  have e : (qv_stepsAgain q p1) = (kk, r) := by
    show (match F_X7_stepsAgain 2000 q.1 q.2.1 q.2.2.1 q.2.2.2.2.1 p1 with | some (k, r) => (k, r) | none => (0, 0) : Nat × Int32) = _
    rw [f1]
  rw [e]
  rcases f3 with ⟨h, -, -⟩ | ⟨h, -, -⟩
  · exact Or.inl h
  · exact Or.inr (h)
def lq_stepsAgain (q : Lad) (p1 : Int32) : Int32 := if (qv_stepsAgain q p1).1 = 0 then (qv_stepsAgain q p1).2 else -1001
theorem K_placeOf (hq : GL q) : (qv_placeOf q p1 p2).1 = 0 ∨ (qv_placeOf q p1 p2).1 = 1 ∨ (qv_placeOf q p1 p2).1 = 2 := by
  obtain ⟨⟨a, h⟩, -⟩ := hq
  obtain ⟨kk, r, y1, y2, y3, y4, y5, b, th2, g2, f2, way2, f1, -, f3⟩ := m_placeOf (fl := 2000) (th := 0) (g := 0) (f := 0) (way := fun _ => 0) (x1 := 0) (x2 := 0) (x3 := 0) (x4 := 0) (x5 := 0) (p1 := p1) (p2 := p2) (Nat.le_refl 2000) h
  have e : (qv_placeOf q p1 p2) = (kk, r) := by
    show (match F_X7_placeOf 2000 q.1 q.2.1 q.2.2.1 q.2.2.2.2.1 0 0 0 0 0 p1 p2 with | some (k, r, _, _, _, _, _) => (k, r) | none => (0, 0) : Nat × Int32) = _
    rw [f1]
  rw [e]
  rcases f3 with ⟨h, -, -⟩ | ⟨h, -, -⟩ | ⟨h, -, -⟩
  · exact Or.inl h
  · exact Or.inr (Or.inl h)
  · exact Or.inr (Or.inr (h))
def lq_placeOf (q : Lad) (p1 : Int32) (p2 : Int32) : Int32 := if (qv_placeOf q p1 p2).1 = 0 then (qv_placeOf q p1 p2).2 else if (qv_placeOf q p1 p2).1 = 1 then -1001 else -1002
theorem K_falls (hq : GL q) : (qv_falls q p1).1 = 0 ∨ (qv_falls q p1).1 = 1 := by
  obtain ⟨⟨a, h⟩, -⟩ := hq
  obtain ⟨kk, r, y1, y2, y3, y4, y5, b, th2, g2, f2, way2, f1, -, f3⟩ := m_falls (fl := 2000) (th := 0) (g := 0) (f := 0) (way := fun _ => 0) (x1 := 0) (x2 := 0) (x3 := 0) (x4 := 0) (x5 := 0) (p1 := p1) (Nat.le_refl 2000) h
  have e : (qv_falls q p1) = (kk, r) := by
    show (match F_X7_falls 2000 q.1 q.2.1 q.2.2.1 q.2.2.2.2.1 0 0 0 0 0 p1 with | some (k, r, _, _, _, _, _) => (k, r) | none => (0, 0) : Nat × Int32) = _
    rw [f1]
  rw [e]
  rcases f3 with ⟨h, -, -⟩ | ⟨h, -, -⟩
  · exact Or.inl h
  · exact Or.inr (h)
def lq_falls (q : Lad) (p1 : Int32) : Int32 := if (qv_falls q p1).1 = 0 then (qv_falls q p1).2 else -1001
theorem K_floor (hq : GL q) : (qv_floor q p1).1 = 0 ∨ (qv_floor q p1).1 = 1 ∨ (qv_floor q p1).1 = 2 := by
  obtain ⟨⟨a, h⟩, -⟩ := hq
  obtain ⟨kk, r, b, th2, f1, -, f3⟩ := m_floor (fl := 2000) (th := 0) (p1 := p1) (Nat.le_refl 2000) h
  have e : (qv_floor q p1) = (kk, r) := by
    show (match F_X7_floor 2000 q.1 q.2.2.1 p1 with | some (k, r) => (k, r) | none => (0, 0) : Nat × Int32) = _
    rw [f1]
  rw [e]
  rcases f3 with ⟨h, -, -⟩ | ⟨h, -, -⟩ | ⟨h, -, -⟩
  · exact Or.inl h
  · exact Or.inr (Or.inl h)
  · exact Or.inr (Or.inr (h))
def lq_floor (q : Lad) (p1 : Int32) : Int32 := if (qv_floor q p1).1 = 0 then (qv_floor q p1).2 else if (qv_floor q p1).1 = 1 then -1001 else -1002
theorem K_ceiling (hq : GL q) : (qv_ceiling q p1).1 = 0 ∨ (qv_ceiling q p1).1 = 1 ∨ (qv_ceiling q p1).1 = 2 := by
  obtain ⟨⟨a, h⟩, -⟩ := hq
  obtain ⟨kk, r, b, th2, f1, -, f3⟩ := m_ceiling (fl := 2000) (th := 0) (p1 := p1) (Nat.le_refl 2000) h
  have e : (qv_ceiling q p1) = (kk, r) := by
    show (match F_X7_ceiling 2000 q.1 q.2.2.1 p1 with | some (k, r) => (k, r) | none => (0, 0) : Nat × Int32) = _
    rw [f1]
  rw [e]
  rcases f3 with ⟨h, -, -⟩ | ⟨h, -, -⟩ | ⟨h, -, -⟩
  · exact Or.inl h
  · exact Or.inr (Or.inl h)
  · exact Or.inr (Or.inr (h))
def lq_ceiling (q : Lad) (p1 : Int32) : Int32 := if (qv_ceiling q p1).1 = 0 then (qv_ceiling q p1).2 else if (qv_ceiling q p1).1 = 1 then -1001 else -1002
theorem K_count (hq : GL q) : (qv_count q p1 p2).1 = 0 ∨ (qv_count q p1 p2).1 = 1 := by
  obtain ⟨⟨a, h⟩, -⟩ := hq
  obtain ⟨kk, r, y1, y2, y3, y4, y5, b, th2, f1, -, f3⟩ := m_count (fl := 2000) (th := 0) (x1 := 0) (x2 := 0) (x3 := 0) (x4 := 0) (x5 := 0) (p1 := p1) (p2 := p2) (Nat.le_refl 2000) h
  have e : (qv_count q p1 p2) = (kk, r) := by
    show (match F_X7_count 2000 q.1 q.2.1 q.2.2.1 q.2.2.2.2.1 0 0 0 0 0 p1 p2 with | some (k, r, _, _, _, _, _) => (k, r) | none => (0, 0) : Nat × Int32) = _
    rw [f1]
  rw [e]
  rcases f3 with ⟨h, -, -⟩ | ⟨h, -, -⟩
  · exact Or.inl h
  · exact Or.inr (h)
def lq_count (q : Lad) (p1 : Int32) (p2 : Int32) : Int32 := if (qv_count q p1 p2).1 = 0 then (qv_count q p1 p2).2 else -1001
theorem K_countAgain (hq : GL q) : (qv_countAgain q p1 p2).1 = 0 ∨ (qv_countAgain q p1 p2).1 = 1 := by
  obtain ⟨⟨a, h⟩, -⟩ := hq
  obtain ⟨kk, r, b, th2, f1, -, f3⟩ := m_countAgain (fl := 2000) (th := 0) (p1 := p1) (p2 := p2) (Nat.le_refl 2000) h
  have e : (qv_countAgain q p1 p2) = (kk, r) := by
    show (match F_X7_countAgain 2000 q.1 q.2.2.1 p1 p2 with | some (k, r) => (k, r) | none => (0, 0) : Nat × Int32) = _
    rw [f1]
  rw [e]
  rcases f3 with ⟨h, -, -⟩ | ⟨h, -, -⟩
  · exact Or.inl h
  · exact Or.inr (h)
def lq_countAgain (q : Lad) (p1 : Int32) (p2 : Int32) : Int32 := if (qv_countAgain q p1 p2).1 = 0 then (qv_countAgain q p1 p2).2 else -1001
theorem K_weightIn (hq : GL q) : (qv_weightIn q p1 p2).1 = 0 ∨ (qv_weightIn q p1 p2).1 = 1 := by
  obtain ⟨⟨a, h⟩, -⟩ := hq
  obtain ⟨kk, r, b, th2, f1, -, f3⟩ := m_weightIn (fl := 2000) (th := 0) (p1 := p1) (p2 := p2) (Nat.le_refl 2000) h
  have e : (qv_weightIn q p1 p2) = (kk, r) := by
    show (match F_X7_weightIn 2000 q.1 q.2.2.1 q.2.2.2.1 p1 p2 with | some (k, r) => (k, r) | none => (0, 0) : Nat × Int32) = _
    rw [f1]
  rw [e]
  rcases f3 with ⟨h, -, -⟩ | ⟨h, -, -⟩
  · exact Or.inl h
  · exact Or.inr (h)
def lq_weightIn (q : Lad) (p1 : Int32) (p2 : Int32) : Int32 := if (qv_weightIn q p1 p2).1 = 0 then (qv_weightIn q p1 p2).2 else -1001
theorem K_heaviestIn (hq : GL q) : (qv_heaviestIn q p1 p2).1 = 0 ∨ (qv_heaviestIn q p1 p2).1 = 1 ∨ (qv_heaviestIn q p1 p2).1 = 2 := by
  obtain ⟨⟨a, h⟩, -⟩ := hq
  obtain ⟨kk, r, b, th2, f1, -, f3⟩ := m_heaviestIn (fl := 2000) (th := 0) (p1 := p1) (p2 := p2) (Nat.le_refl 2000) h
  have e : (qv_heaviestIn q p1 p2) = (kk, r) := by
    show (match F_X7_heaviestIn 2000 q.1 q.2.2.1 q.2.2.2.1 p1 p2 with | some (k, r) => (k, r) | none => (0, 0) : Nat × Int32) = _
    rw [f1]
  rw [e]
  rcases f3 with ⟨h, -, -⟩ | ⟨h, -, -⟩ | ⟨h, -, -⟩
  · exact Or.inl h
  · exact Or.inr (Or.inl h)
  · exact Or.inr (Or.inr (h))
def lq_heaviestIn (q : Lad) (p1 : Int32) (p2 : Int32) : Int32 := if (qv_heaviestIn q p1 p2).1 = 0 then (qv_heaviestIn q p1 p2).2 else if (qv_heaviestIn q p1 p2).1 = 1 then -1001 else -1002
theorem K_levelSize (hq : GL q) : (qv_levelSize q p1).1 = 0 ∨ (qv_levelSize q p1).1 = 3 := by
  obtain ⟨⟨a, h⟩, -⟩ := hq
  obtain ⟨kk, r, b, th2, f1, -, f3⟩ := m_levelSize (fl := 2000) (th := 0) (p1 := p1) (Nat.le_refl 2000) h
  have e : (qv_levelSize q p1) = (kk, r) := by
    show (match F_X7_levelSize 2000 q.1 q.2.2.2.2.1 p1 with | some (k, r) => (k, r) | none => (0, 0) : Nat × Int32) = _
    rw [f1]
  rw [e]
  rcases f3 with ⟨h, -, -⟩ | ⟨h, -, -⟩
  · exact Or.inl h
  · exact Or.inr (h)
def lq_levelSize (q : Lad) (p1 : Int32) : Int32 := if (qv_levelSize q p1).1 = 0 then (qv_levelSize q p1).2 else -1001
theorem K_levelAt (hq : GL q) : (qv_levelAt q p1 p2).1 = 0 ∨ (qv_levelAt q p1 p2).1 = 3 ∨ (qv_levelAt q p1 p2).1 = 2 := by
  obtain ⟨⟨a, h⟩, -⟩ := hq
  obtain ⟨kk, r, b, th2, f1, -, f3⟩ := m_levelAt (fl := 2000) (th := 0) (p1 := p1) (p2 := p2) (Nat.le_refl 2000) h
  have e : (qv_levelAt q p1 p2) = (kk, r) := by
    show (match F_X7_levelAt 2000 q.1 q.2.2.1 q.2.2.2.2.1 p1 p2 with | some (k, r) => (k, r) | none => (0, 0) : Nat × Int32) = _
    rw [f1]
  rw [e]
  rcases f3 with ⟨h, -, -⟩ | ⟨h, -, -⟩ | ⟨h, -, -⟩
  · exact Or.inl h
  · exact Or.inr (Or.inl h)
  · exact Or.inr (Or.inr (h))
def lq_levelAt (q : Lad) (p1 : Int32) (p2 : Int32) : Int32 := if (qv_levelAt q p1 p2).1 = 0 then (qv_levelAt q p1 p2).2 else if (qv_levelAt q p1 p2).1 = 3 then -1001 else -1002
theorem K_span (hq : GL q) : (qv_span q p1 p2).1 = 0 ∨ (qv_span q p1 p2).1 = 3 ∨ (qv_span q p1 p2).1 = 1 ∨ (qv_span q p1 p2).1 = 2 := by
  obtain ⟨⟨a, h⟩, -⟩ := hq
  obtain ⟨kk, r, b, th2, f1, -, f3⟩ := m_span (fl := 2000) (th := 0) (p1 := p1) (p2 := p2) (Nat.le_refl 2000) h
  have e : (qv_span q p1 p2) = (kk, r) := by
    show (match F_X7_span 2000 q.1 q.2.2.1 q.2.2.2.2.1 p1 p2 with | some (k, r) => (k, r) | none => (0, 0) : Nat × Int32) = _
    rw [f1]
  rw [e]
  rcases f3 with ⟨h, -, -⟩ | ⟨h, -, -⟩ | ⟨h, -, -⟩ | ⟨h, -, -⟩
  · exact Or.inl h
  · exact Or.inr (Or.inl h)
  · exact Or.inr (Or.inr (Or.inl h))
  · exact Or.inr (Or.inr (Or.inr (h)))
def lq_span (q : Lad) (p1 : Int32) (p2 : Int32) : Int32 := if (qv_span q p1 p2).1 = 0 then (qv_span q p1 p2).2 else if (qv_span q p1 p2).1 = 3 then -1001 else if (qv_span q p1 p2).1 = 1 then -1002 else -1003
theorem K_headSpan (hq : GL q) : (qv_headSpan q p1).1 = 0 ∨ (qv_headSpan q p1).1 = 3 := by
  obtain ⟨⟨a, h⟩, -⟩ := hq
  obtain ⟨kk, r, b, th2, f1, -, f3⟩ := m_headSpan (fl := 2000) (th := 0) (p1 := p1) (Nat.le_refl 2000) h
  have e : (qv_headSpan q p1) = (kk, r) := by
    show (match F_X7_headSpan 2000 q.1 q.2.2.2.2.1 p1 with | some (k, r) => (k, r) | none => (0, 0) : Nat × Int32) = _
    rw [f1]
  rw [e]
  rcases f3 with ⟨h, -, -⟩ | ⟨h, -, -⟩
  · exact Or.inl h
  · exact Or.inr (h)
def lq_headSpan (q : Lad) (p1 : Int32) : Int32 := if (qv_headSpan q p1).1 = 0 then (qv_headSpan q p1).2 else -1001
theorem K_isForgotten (hq : GL q) : (qv_isForgotten q p1).1 = 0 ∨ (qv_isForgotten q p1).1 = 3 := by
  obtain ⟨⟨a, h⟩, -⟩ := hq
  obtain ⟨kk, r, b, th2, f1, -, f3⟩ := m_isForgotten (fl := 2000) (th := 0) (p1 := p1) h
  have e : (qv_isForgotten q p1) = (kk, r) := by
    show (match F_X7_isForgotten 2000 q.2.1 p1 with | some (k, r) => (k, r) | none => (0, 0) : Nat × Int32) = _
    rw [f1]
  rw [e]
  rcases f3 with ⟨h, -, -⟩ | ⟨h, -, -⟩
  · exact Or.inl h
  · exact Or.inr (h)
def lq_isForgotten (q : Lad) (p1 : Int32) : Int32 := if (qv_isForgotten q p1).1 = 0 then (if (qv_isForgotten q p1).2 = 0 then 0 else 1) else -1001
theorem K_longestSearch (hq : GL q) : (qv_longestSearch q).1 = 0 ∨ (qv_longestSearch q).1 = 2 := by
  obtain ⟨⟨a, h⟩, -⟩ := hq
  obtain ⟨kk, r, y1, y2, y3, y4, y5, b, th2, g2, f2, way2, f1, -, f3⟩ := m_longestSearch (fl := 2000) (th := 0) (g := 0) (f := 0) (way := fun _ => 0) (x1 := 0) (x2 := 0) (x3 := 0) (x4 := 0) (x5 := 0) (Nat.le_refl 2000) h
  have e : (qv_longestSearch q) = (kk, r) := by
    show (match F_X7_longestSearch 2000 q.1 q.2.1 q.2.2.1 q.2.2.2.2.1 0 0 0 0 0 with | some (k, r, _, _, _, _, _) => (k, r) | none => (0, 0) : Nat × Int32) = _
    rw [f1]
  rw [e]
  rcases f3 with ⟨h, -, -⟩ | ⟨h, -, -⟩
  · exact Or.inl h
  · exact Or.inr (h)
def lq_longestSearch (q : Lad) : Int32 := if (qv_longestSearch q).1 = 0 then (qv_longestSearch q).2 else -1001
theorem K_account (hq : GL q) : (qv_account q u le p1).1 = 0 ∨ (qv_account q u le p1).1 = 1 := by
  obtain ⟨⟨a, h⟩, -⟩ := hq
  obtain ⟨kk, r, b, th2, f1, -, f3⟩ := m_account (fl := 2000) (th := 0) (le := le) (u := u) (p1 := p1) (Nat.le_refl 2000) h
  have e : (qv_account q u le p1) = (kk, r) := by
    show (match F_X7_account 2000 q.1 q.2.1 q.2.2.2.1 q.2.2.2.2.1 q.2.2.2.2.2.1 q.2.2.2.2.2.2.1 q.2.2.2.2.2.2.2 le u p1 with | some (k, r) => (k, r) | none => (0, 0) : Nat × Int32) = _
    rw [f1]
  rw [e]
  rcases f3 with ⟨h, -, -⟩ | ⟨h, -, -⟩
  · exact Or.inl h
  · exact Or.inr (h)
def lq_account (q : Lad) (u : Int32) (le : Int32) (p1 : Int32) : Int32 := if (qv_account q u le p1).1 = 0 then (qv_account q u le p1).2 else -1001
theorem K_meanSteps (hq : GL q) : (qv_meanSteps q).1 = 0 ∨ (qv_meanSteps q).1 = 6 := by
  obtain ⟨⟨a, h⟩, -⟩ := hq
  obtain ⟨kk, r, y1, y2, y3, y4, y5, b, th2, g2, f2, way2, f1, -, f3⟩ := m_meanSteps (fl := 2000) (th := 0) (g := 0) (f := 0) (way := fun _ => 0) (x1 := 0) (x2 := 0) (x3 := 0) (x4 := 0) (x5 := 0) (Nat.le_refl 2000) h
  have e : (qv_meanSteps q) = (kk, r) := by
    show (match F_X7_meanSteps 2000 q.1 q.2.1 q.2.2.1 q.2.2.2.2.1 0 0 0 0 0 with | some (k, r, _, _, _, _, _) => (k, r) | none => (0, 0) : Nat × UInt64) = _
    rw [f1]
  rw [e]
  rcases f3 with ⟨h, -, -⟩ | ⟨h, -⟩
  · exact Or.inl h
  · exact Or.inr h
theorem K_meanRungs (hq : GL q) : (qv_meanRungs q).1 = 0 ∨ (qv_meanRungs q).1 = 6 := by
  obtain ⟨⟨a, h⟩, -⟩ := hq
  obtain ⟨kk, r, b, th2, f1, -, f3⟩ := m_meanRungs (fl := 2000) (th := 0) (Nat.le_refl 2000) h
  have e : (qv_meanRungs q) = (kk, r) := by
    show (match F_X7_meanRungs 2000 q.1 q.2.2.2.2.1 with | some (k, r) => (k, r) | none => (0, 0) : Nat × UInt32) = _
    rw [f1]
  rw [e]
  rcases f3 with ⟨h, -, -⟩ | ⟨h, -⟩
  · exact Or.inl h
  · exact Or.inr h
def lq_reason (rs dt ix p1 : Int32) : Int32 := if (qv_reason rs dt ix p1).1 = 0 then (qv_reason rs dt ix p1).2 else if (qv_reason rs dt ix p1).1 = 1 then -1001 else -1002
theorem K_reason {rs dt ix : Int32} : (qv_reason rs dt ix p1).1 = 0 ∨ (qv_reason rs dt ix p1).1 = 1 ∨ (qv_reason rs dt ix p1).1 = 2 := by
  obtain ⟨kk, r, b, th2, e1, -, e3⟩ := m_reason (fl := 2000) (rs := rs) (dt := dt) (ix := ix) (th := 0) (p1 := p1)
  have e : qv_reason rs dt ix p1 = (kk, r) := by unfold qv_reason; rw [e1]
  rw [e]
  rcases e3 with ⟨h, -, -⟩ | ⟨h, -, -⟩ | ⟨h, -, -⟩
  · exact Or.inl h
  · exact Or.inr (Or.inl h)
  · exact Or.inr (Or.inr h)
def lq_meanSteps (q : Lad) : UInt64 := if (qv_meanSteps q).1 = 0 then (qv_meanSteps q).2 else 13875388141788987392
def lq_meanRungs (q : Lad) : UInt32 := if (qv_meanRungs q).1 = 0 then (qv_meanRungs q).2 else 3296346112
