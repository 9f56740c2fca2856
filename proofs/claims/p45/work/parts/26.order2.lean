/-! texts: a command, read by both -/
variable {fl : Nat} {TX told : Nat → Int32} {M q L i : Nat} {c at' fy o1 o2 o3 o4 p2 od : Int32}
/-- the same command -/
def ORD (s nu we ru od : Int32) (told : Nat → Int32) : Prop :=
  (od = 43 ∧ s = 43 ∧ told 2 < 0 ∧ nu = told 0 ∧ we = told 1 ∧ ru = 1) ∨ (od = 43 ∧ s = 94 ∧ ¬ told 2 < 0 ∧ nu = told 0 ∧ we = told 1 ∧ ru = told 2) ∨
  (s = od ∧ (od = 45 ∨ od = 100 ∨ od = 117 ∨ od = 102 ∨ od = 114) ∧ nu = told 0 ∧ we = 0) ∨ (s = 116 ∧ od = 116) ∨ (s = 119 ∧ od = 119 ∧ nu = told 0 ∧ we = told 1)
theorem nv1_nn : ¬ nv M TX 1 q < 0 := by
  unfold nv
  rw [rn]
  by_cases d : dig M TX q = true
  · rw [if_pos d, rn]
    obtain ⟨k, h1, h2, e⟩ := inR_n (lo := 48) (hi := 57) (of_decide_eq_true d).2 (by decide) (by decide)
    show ¬ ((10 : Int32) * 0 + TX q) - (48 : Int32) < 0
    rw [e, show (10 : Int32) * 0 + nI k = nI (0 + k) from nI_add 0 k, show nI (0 + k) - (48 : Int32) = nI (0 + k - 48) from pk_sub (b := 48) (by omega)]
    exact nI_nlt0 (by omega)
  · rw [if_neg d]; decide
theorem p_n3 (hf : 2000 ≤ fl) (hM : M ≤ 60) (h : q ≤ M) : F_X5_readNumber fl (nI M) (nI q) 0 TX 3 = some (nv M TX 3 q, nI (nq M TX 3 q), if nq M TX 3 q = q then 1 else 0) := p_read (L := 3) hf hM h (by omega)
theorem p_n1 (hf : 2000 ≤ fl) (hM : M ≤ 60) (h : q ≤ M) : F_X5_readNumber fl (nI M) (nI q) 0 TX 1 = some (nv M TX 1 q, nI (nq M TX 1 q), if nq M TX 1 q = q then 1 else 0) := p_read (L := 1) hf hM h (by omega)
theorem q_n3 (hf : 2000 ≤ fl) (hM : M ≤ 60) (h : q ≤ M) : F_X8_number fl (nI M) (nI q) TX told 0 3 = some ((if nq M TX 3 q = q then 0 else 1), nI (nq M TX 3 q), upd told 0 (nv M TX 3 q)) := q_number (L := 3) (i := 0) hf hM h (by omega) (by omega)
theorem q_n1 (hf : 2000 ≤ fl) (hM : M ≤ 60) (h : q ≤ M) : F_X8_number fl (nI M) (nI q) TX told 0 1 = some ((if nq M TX 1 q = q then 0 else 1), nI (nq M TX 1 q), upd told 0 (nv M TX 1 q)) := q_number (L := 1) (i := 0) hf hM h (by omega) (by omega)
theorem q_n2 (hf : 2000 ≤ fl) (hM : M ≤ 60) (h : q ≤ M) : F_X8_number fl (nI M) (nI q) TX told 1 2 = some ((if nq M TX 2 q = q then 0 else 1), nI (nq M TX 2 q), upd told 1 (nv M TX 2 q)) := q_number (L := 2) (i := 1) hf hM h (by omega) (by omega)
theorem q_n1c (hf : 2000 ≤ fl) (hM : M ≤ 60) (h : q ≤ M) : F_X8_number fl (nI M) (nI q) TX told 2 1 = some ((if nq M TX 1 q = q then 0 else 1), nI (nq M TX 1 q), upd told 2 (nv M TX 1 q)) := q_number (L := 1) (i := 2) hf hM h (by omega) (by omega)
/-- the reference's reading of a key and a weight, with what follows -/
theorem q_kwK {G : Type} (hf : 2000 ≤ fl) (hM : M ≤ 60) (h : q ≤ M) (F0 : Int32 → Int32 → (Nat → Int32) → Option G) (F1 : Int32 → (Nat → Int32) → Option G) :
    ∃ t2, (bn3 (F_X8_number fl (nI M) (nI q) TX told 0 3) fun r a t => if r = 0 then F0 0 a t else bn2 (F_X8_sign fl (nI M) a TX 61) fun r2 a2 => if r2 = 0 then F0 0 a2 t else bn3 (F_X8_number fl (nI M) a2 TX t 1 2) fun r3 a3 t3 => if r3 = 0 then F0 0 a3 t3 else F1 a3 t3) = (if kwB M TX q = true then F1 (nI (kwQ M TX q)) t2 else F0 0 (nI (kwQ M TX q)) t2) ∧ (kwB M TX q = true → t2 = upd (upd told 0 (nv M TX 3 q)) 1 (nv M TX 2 (nq M TX 3 q + 1))) := by
  have h1 := nq_le (TX := TX) (L := 3) h
  rw [q_n3 hf hM h, bn3_e]
  by_cases c1 : nq M TX 3 q = q
  · have b : ¬ kwB M TX q = true := fun z => by
      unfold kwB at z
      rw [decide_eq_false (show ¬ nq M TX 3 q ≠ q from fun y => y c1), Bool.false_and, Bool.false_and] at z
      exact absurd z (by decide)
    rw [if_pos c1, if_pos rfl, if_neg b, show kwQ M TX q = q from if_pos c1]
    exact ⟨_, by rw [c1], fun z => absurd z b⟩
  · rw [if_neg c1, if_neg (show ¬ (1 : Int32) = 0 by decide), q_sign hM h1.2]
    by_cases c2 : hs M TX (nq M TX 3 q) 61 = true
    · have hq2 : nq M TX 3 q + 1 ≤ M := by have := (of_decide_eq_true c2).1; omega
      have eQ : kwQ M TX q = nq M TX 2 (nq M TX 3 q + 1) := by unfold kwQ; rw [if_neg c1, if_pos c2]
      rw [if_pos c2, bn2_e, if_neg (show ¬ (1 : Int32) = 0 by decide), q_n2 hf hM hq2, bn3_e, eQ]
      refine ⟨_, ?_, fun _ => rfl⟩
      by_cases c3 : nq M TX 2 (nq M TX 3 q + 1) = nq M TX 3 q + 1
      · have b : ¬ kwB M TX q = true := fun z => by
          unfold kwB at z
          rw [decide_eq_false (show ¬ nq M TX 2 (nq M TX 3 q + 1) ≠ nq M TX 3 q + 1 from fun y => y c3), Bool.and_false] at z
          exact absurd z (by decide)
        rw [if_pos c3, if_pos rfl, if_neg b]
      · have b : kwB M TX q = true := by
          unfold kwB
          rw [decide_eq_true (show nq M TX 3 q ≠ q from c1), c2, decide_eq_true (show nq M TX 2 (nq M TX 3 q + 1) ≠ nq M TX 3 q + 1 from c3)]; rfl
        rw [if_neg c3, if_neg (show ¬ (1 : Int32) = 0 by decide), if_pos b]
    · have b : ¬ kwB M TX q = true := fun z => by
        unfold kwB at z
        have c2 : hs M TX (nq M TX 3 q) 61 = false := by cases y : hs M TX (nq M TX 3 q) 61 with | true => exact absurd y c2 | false => rfl
        rw [c2, Bool.and_false, Bool.false_and] at z
        exact absurd z (by decide)
      have eQ : kwQ M TX q = nq M TX 3 q := by unfold kwQ; rw [if_neg c1, if_neg c2]
      rw [if_neg c2, bn2_e, if_pos rfl, if_neg b, eQ]
      exact ⟨_, rfl, fun z => absurd z b⟩
