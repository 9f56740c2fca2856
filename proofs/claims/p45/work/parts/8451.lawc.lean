/-! the law's body: words -/
def lk (j : Nat) : Int32 := if j < 24 then nI (23 - j) else -1
theorem lk_1 {j : Nat} (h : j < 24) : nI (23 - j) + -1 = lk (j + 1) := by
  have g : ∀ j : Fin 24, nI (23 - j.val) + -1 = lk (j.val + 1) := by decide +kernel
  exact g ⟨j, h⟩
theorem m40 {j : Nat} (h : j < 24) : (40 : Int32) * nI (23 - j) = nI (40 * (23 - j)) := by
  have g : ∀ j : Fin 24, (40 : Int32) * nI (23 - j.val) = nI (40 * (23 - j.val)) := by decide +kernel
  exact g ⟨j, h⟩
theorem m5 {j : Nat} (h : j < 24) : (5 : Int32) - (nI (23 - j) - nI (23 - j) / 5 * 5) = nI (5 - (23 - j) % 5) := by
  have g : ∀ j : Fin 24, (5 : Int32) - (nI (23 - j.val) - nI (23 - j.val) / 5 * 5) = nI (5 - (23 - j.val) % 5) := by decide +kernel
  exact g ⟨j, h⟩
theorem cm_A {y : Nat → ClassId} {at_ : Nat} {q : Lad} {us : List Lad} {sv : Option Lad} {rs dt ix : Int32} {tx : Nat → Int32} {NN : Nat} {TT : Nat → Nat} {r : Int32} {V : va_W} (h65 : tx 0 = 65) (h : (∃ x, ps 60 tx 61 0 = some x ∧ r = -1001 ∧ Ob y at_ q us sv rs dt ix (nI x) 0 tx NN TT V) ∨ (ps 60 tx 61 0 = none ∧ ∃ v rs2 dt2 ix2, CTX q rs dt ix 60 tx v rs2 dt2 ix2 ∧ ((v = -1 ∧ r = -1002 ∧ Ob y at_ q us sv rs2 dt2 ix2 (-1) 0 tx NN TT V) ∨ (r = v ∧ 0 ≤ v ∧ ∃ q2, GL q2 ∧ Ob y at_ q2 (push q us) sv rs2 dt2 ix2 (-1) 0 tx NN TT V)))) : r = -1001 ∧ Ob y at_ q us sv rs dt ix (nI 0) 0 tx NN TT V := by
  have e := ps_A h65
  rcases h with ⟨x, h1, h2, h3⟩ | ⟨h1, -⟩
  · obtain rfl : x = 0 := Option.some.inj (h1.symm.trans e)
    exact ⟨h2, h3⟩
  · exact absurd (h1.symm.trans e) (by simp)
theorem upd65 {tx : Nat → Int32} {j : Nat} (h : 0 < j → tx 0 = 65) : upd tx j (vp_nar .char (((((65 : Int32)) + (nI j)).toUInt32 % 65536).toInt32)) 0 = 65 := by
  unfold upd
  by_cases e : 0 = j
  · subst e; rw [if_pos rfl]; decide +kernel
  · rw [if_neg e]; exact h (by omega)
