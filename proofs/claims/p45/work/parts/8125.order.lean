/-! texts: commands -/
variable {fl : Nat} {TX told : Nat → Int32} {M q L i : Nat} {c at' fy o1 o2 o3 o4 p2 od : Int32}
/-- a key and a weight -/
def kwB (M : Nat) (TX : Nat → Int32) (q : Nat) : Bool := decide (nq M TX 3 q ≠ q) && hs M TX (nq M TX 3 q) 61 && decide (nq M TX 2 (nq M TX 3 q + 1) ≠ nq M TX 3 q + 1)
def kwQ (M : Nat) (TX : Nat → Int32) (q : Nat) : Nat := if nq M TX 3 q = q then q else if hs M TX (nq M TX 3 q) 61 = true then nq M TX 2 (nq M TX 3 q + 1) else nq M TX 3 q
theorem kwQ_le (h : q ≤ M) : q ≤ kwQ M TX q ∧ kwQ M TX q ≤ M := by
  have h1 := nq_le (TX := TX) (L := 3) h
  unfold kwQ
  by_cases c1 : nq M TX 3 q = q
  · rw [if_pos c1]; omega
  · rw [if_neg c1]
    by_cases c2 : hs M TX (nq M TX 3 q) 61 = true
    · have h2 := nq_le (TX := TX) (L := 2) (q := nq M TX 3 q + 1) (M := M) (by have := (of_decide_eq_true c2).1; omega)
      rw [if_pos c2]; omega
    · rw [if_neg c2]; exact h1
theorem p_kw (hf : 2000 ≤ fl) (hM : M ≤ 60) (h : q ≤ M) (ho : okC p2 = true) : ∃ w, F_X5_readKeyAndWeight fl (nI M) (nI q) 0 TX o1 o2 o3 o4 p2 = some (nI (kwQ M TX q), (if kwB M TX q = true then 0 else 1), p2, nv M TX 3 q, w, 1) ∧ (kwB M TX q = true → w = nv M TX 2 (nq M TX 3 q + 1)) := by
  have h1 := nq_le (TX := TX) (L := 3) h
  unfold F_X5_readKeyAndWeight F_X4_tell
  have e1 := p_read (fl := fl) (TX := TX) (L := 3) hf hM h (by omega)
  rw [show (3 : Int32) = nI 3 from rfl, e1, bn3_e]
  by_cases c1 : nq M TX 3 q = q
  · have b : ¬ kwB M TX q = true := fun z => by
      unfold kwB at z
      rw [decide_eq_false (show ¬ nq M TX 3 q ≠ q from fun y => y c1), Bool.false_and, Bool.false_and] at z
      exact absurd z (by decide)
    rw [if_pos c1, p_pass1, bn3_e, p_read1 hf, bn3_e, gd_e ho, bn4_e, if_neg b, show kwQ M TX q = q from if_pos c1, c1]
    exact ⟨_, rfl, fun z => absurd z b⟩
  · rw [if_neg c1, p_pass hM h1.2 (by decide)]
    by_cases c2 : hs M TX (nq M TX 3 q) 61 = true
    · have hq2 : nq M TX 3 q + 1 ≤ M := by have := (of_decide_eq_true c2).1; omega
      have e2 := p_read (fl := fl) (TX := TX) (L := 2) hf hM hq2 (by omega)
      have eQ : kwQ M TX q = nq M TX 2 (nq M TX 3 q + 1) := by unfold kwQ; rw [if_neg c1, if_pos c2]
      rw [if_pos c2, bn3_e, show (2 : Int32) = nI 2 from rfl, e2, bn3_e, gd_e ho, bn4_e, eQ]
      refine ⟨_, ?_, fun _ => rfl⟩
      by_cases c3 : nq M TX 2 (nq M TX 3 q + 1) = nq M TX 3 q + 1
      · have b : ¬ kwB M TX q = true := fun z => by
          unfold kwB at z
          rw [decide_eq_false (show ¬ nq M TX 2 (nq M TX 3 q + 1) ≠ nq M TX 3 q + 1 from fun y => y c3), Bool.and_false] at z
          exact absurd z (by decide)
        rw [if_pos c3, if_neg b]
      · have b : kwB M TX q = true := by
          unfold kwB
          rw [decide_eq_true (show nq M TX 3 q ≠ q from c1), c2, decide_eq_true (show nq M TX 2 (nq M TX 3 q + 1) ≠ nq M TX 3 q + 1 from c3)]; rfl
        rw [if_neg c3, if_pos b]
    · have b : ¬ kwB M TX q = true := fun z => by
        unfold kwB at z
        have c2 : hs M TX (nq M TX 3 q) 61 = false := by cases y : hs M TX (nq M TX 3 q) 61 with | true => exact absurd y c2 | false => rfl
        rw [c2, Bool.and_false, Bool.false_and] at z
        exact absurd z (by decide)
      have eQ : kwQ M TX q = nq M TX 3 q := by unfold kwQ; rw [if_neg c1, if_neg c2]
      rw [if_neg c2, bn3_e, p_read1 hf, bn3_e, gd_e ho, bn4_e, if_neg b, eQ]
      exact ⟨_, rfl, fun z => absurd z b⟩
def oB (M : Nat) (TX : Nat → Int32) (q : Nat) : Bool :=
  if q < M then
    if TX q = 43 then kwB M TX (q + 1) && (!(hs M TX (kwQ M TX (q + 1)) 94) || decide (nq M TX 1 (kwQ M TX (q + 1) + 1) ≠ kwQ M TX (q + 1) + 1))
    else if TX q = 45 then decide (nq M TX 3 (q + 1) ≠ q + 1)
    else if TX q = 100 then decide (nq M TX 3 (q + 1) ≠ q + 1)
    else if TX q = 102 then decide (nq M TX 1 (q + 1) ≠ q + 1)
    else if TX q = 114 then decide (nq M TX 1 (q + 1) ≠ q + 1)
    else if TX q = 116 then true
    else if TX q = 117 then decide (nq M TX 3 (q + 1) ≠ q + 1)
    else if TX q = 119 then kwB M TX (q + 1)
    else false
  else false
def oQ (M : Nat) (TX : Nat → Int32) (q : Nat) : Nat :=
  if q < M then
    if TX q = 43 then (if kwB M TX (q + 1) = true then (if hs M TX (kwQ M TX (q + 1)) 94 = true then nq M TX 1 (kwQ M TX (q + 1) + 1) else kwQ M TX (q + 1)) else kwQ M TX (q + 1))
    else if TX q = 45 then nq M TX 3 (q + 1)
    else if TX q = 100 then nq M TX 3 (q + 1)
    else if TX q = 102 then nq M TX 1 (q + 1)
    else if TX q = 114 then nq M TX 1 (q + 1)
    else if TX q = 116 then q + 1
    else if TX q = 117 then nq M TX 3 (q + 1)
    else if TX q = 119 then kwQ M TX (q + 1)
    else q
  else q
theorem oQ_le (h : q ≤ M) : q ≤ oQ M TX q ∧ oQ M TX q ≤ M ∧ (oB M TX q = true → q < oQ M TX q) := by
  by_cases c : q < M
  · have h3 := nq_le (TX := TX) (L := 3) (q := q + 1) (M := M) c
    have h1 := nq_le (TX := TX) (L := 1) (q := q + 1) (M := M) c
    have hk := kwQ_le (TX := TX) (q := q + 1) (M := M) c
    have key : q < oQ M TX q ∨ (oQ M TX q = q ∧ oB M TX q = false) := by
      unfold oQ oB
      rw [if_pos c, if_pos c]
      by_cases t : TX q = 43
      · rw [if_pos t, if_pos t]; refine Or.inl ?_
        by_cases b : kwB M TX (q + 1) = true
        · rw [if_pos b]
          by_cases g : hs M TX (kwQ M TX (q + 1)) 94 = true
          · have := nq_le (TX := TX) (L := 1) (q := kwQ M TX (q + 1) + 1) (M := M) (by have := (of_decide_eq_true g).1; omega)
            rw [if_pos g]; omega
          · rw [if_neg g]; omega
        · rw [if_neg b]; omega
      rw [if_neg t, if_neg t]
      by_cases t : TX q = 45
      · rw [if_pos t, if_pos t]; exact Or.inl (by omega)
      rw [if_neg t, if_neg t]
      by_cases t : TX q = 100
      · rw [if_pos t, if_pos t]; exact Or.inl (by omega)
      rw [if_neg t, if_neg t]
      by_cases t : TX q = 102
      · rw [if_pos t, if_pos t]; exact Or.inl (by omega)
      rw [if_neg t, if_neg t]
      by_cases t : TX q = 114
      · rw [if_pos t, if_pos t]; exact Or.inl (by omega)
      rw [if_neg t, if_neg t]
      by_cases t : TX q = 116
      · rw [if_pos t, if_pos t]; exact Or.inl (by omega)
      rw [if_neg t, if_neg t]
      by_cases t : TX q = 117
      · rw [if_pos t, if_pos t]; exact Or.inl (by omega)
      rw [if_neg t, if_neg t]
      by_cases t : TX q = 119
      · rw [if_pos t, if_pos t]; exact Or.inl (by omega)
      rw [if_neg t, if_neg t]; exact Or.inr ⟨rfl, rfl⟩
    have hle : oQ M TX q ≤ M := by
      unfold oQ
      rw [if_pos c]
      by_cases t : TX q = 43
      · rw [if_pos t]
        by_cases b : kwB M TX (q + 1) = true
        · rw [if_pos b]
          by_cases g : hs M TX (kwQ M TX (q + 1)) 94 = true
          · have := nq_le (TX := TX) (L := 1) (q := kwQ M TX (q + 1) + 1) (M := M) (by have := (of_decide_eq_true g).1; omega)
            rw [if_pos g]; omega
          · rw [if_neg g]; omega
        · rw [if_neg b]; omega
      rw [if_neg t]
      by_cases t : TX q = 45
      · rw [if_pos t]; omega
      rw [if_neg t]
      by_cases t : TX q = 100
      · rw [if_pos t]; omega
      rw [if_neg t]
      by_cases t : TX q = 102
      · rw [if_pos t]; omega
      rw [if_neg t]
      by_cases t : TX q = 114
      · rw [if_pos t]; omega
      rw [if_neg t]
      by_cases t : TX q = 116
      · rw [if_pos t]; omega
      rw [if_neg t]
      by_cases t : TX q = 117
      · rw [if_pos t]; omega
      rw [if_neg t]
      by_cases t : TX q = 119
      · rw [if_pos t]; omega
      rw [if_neg t]; exact h
    rcases key with k | ⟨k1, k2⟩
    · exact ⟨by omega, hle, fun _ => k⟩
    · exact ⟨by omega, hle, fun z => by rw [k2] at z; cases z⟩
  · have e : oQ M TX q = q := if_neg c
    have e2 : oB M TX q = false := if_neg c
    exact ⟨by omega, by omega, fun z => by rw [e2] at z; cases z⟩
