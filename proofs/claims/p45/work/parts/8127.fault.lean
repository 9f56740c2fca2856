/-! texts: faults -/
variable {fl : Nat} {TX told : Nat → Int32} {M q L i : Nat} {c at' fy o1 o2 o3 o4 p2 od : Int32}
theorem p_sep (hM : M ≤ 60) (h : q ≤ M) (hc : ∀ j, j < M → okC (TX j) = true) : F_X5_passSeparator fl (nI M) (nI q) 0 TX = some (if q < M then (if TX q = 59 then (1, nI (q + 1), 0) else (0, nI q, 1)) else (0, nI q, 0)) := by
  unfold F_X5_passSeparator
  rw [if_pos rfl, p_look hM (by omega), bn_e]
  by_cases e : q < M
  · have h1 : ¬ TX q = -1 := fun z => by have := hc q e; rw [z] at this; exact absurd this (by decide)
    rw [if_pos e, if_neg h1, p_pass hM h (by decide)]
    by_cases d : TX q = 59
    · rw [if_pos (show hs M TX q 59 = true from decide_eq_true ⟨e, d⟩), bn3_e, gd_e okB1, if_pos e, if_pos d]
    · rw [if_neg (show ¬ hs M TX q 59 = true from fun z => d (of_decide_eq_true z).2), bn3_e, gd_e okB0, if_pos e, if_neg d]
  · rw [if_neg e, if_pos rfl, if_neg e]
theorem p_sep1 {x : Int32} : F_X5_passSeparator fl x at' 1 TX = some (0, at', 1) := by
  unfold F_X5_passSeparator; rw [if_neg (by decide)]
/-- where the text is at fault -/
def ps (M : Nat) (TX : Nat → Int32) : Nat → Nat → Option Nat
  | 0, q => some q
  | f + 1, q => if oB M TX q = true then (if oQ M TX q < M then (if TX (oQ M TX q) = 59 then ps M TX f (oQ M TX q + 1) else some (oQ M TX q)) else none) else some (oQ M TX q)
theorem p_findE {x3 : Int32} {m : Nat} : F_X5_findFault_8 fl (nI M) TX (m + 1) at' 1 o1 o2 o3 o4 0 x3 = some (at', at', 1, o1, o2, o3, o4) := by
  rw [F_X5_findFault_8, if_pos rfl, if_neg (by decide)]
theorem p_findO {x3 : Int32} {m : Nat} : F_X5_findFault_8 fl (nI M) TX (m + 1) at' 0 o1 o2 o3 o4 0 x3 = some (-1, at', 0, o1, o2, o3, o4) := by
  rw [F_X5_findFault_8, if_pos rfl, if_pos rfl]
theorem p_findL (hf : 2000 ≤ fl) (hM : M ≤ 60) (hc : ∀ j, j < M → okC (TX j) = true) : ∀ (f q k m : Nat) (o1 o2 o3 o4 : Int32), M - q < f → q ≤ M → 2 * k ≤ q → M - q + 2 ≤ m →
    ∃ a' f' s nu we ru, F_X5_findFault_8 fl (nI M) TX m (nI q) 0 o1 o2 o3 o4 1 (nI k) = some ((match ps M TX f q with | some x => nI x | none => -1), a', f', s, nu, we, ru) := by
  intro f
  induction f with
  | zero => intro q k m o1 o2 o3 o4 h1; omega
  | succ f ih =>
    intro q k m o1 o2 o3 o4 h1 hq hk hm
    obtain ⟨m, rfl⟩ : ∃ z, m = z + 2 := ⟨m - 2, by omega⟩
    obtain ⟨s, nu, we, ru, od', t', g1, -, -⟩ := r_order (fl := fl) (TX := TX) (told := TX) (od := 0) (o1 := o1) (o2 := o2) (o3 := o3) (o4 := o4) hf hM hq hc
    obtain ⟨l1, l2, l3⟩ := oQ_le (TX := TX) hq
    rw [F_X5_findFault_8, if_neg (by decide), if_neg (fun z => by have := (nI_leI (a := 60) (by omega) (by omega)).mp z; omega), g1, bn6_e, nI_1, ps]
    by_cases b : oB M TX q = true
    · rw [if_pos b, if_pos b, p_sep hM l2 hc]
      by_cases e : oQ M TX q < M
      · rw [if_pos e, if_pos e]
        by_cases d : TX (oQ M TX q) = 59
        · rw [if_pos d, if_pos d, bn3_e]
          have := l3 b
          exact ih (oQ M TX q + 1) (k + 1) (m + 1) s nu we ru (by omega) (by omega) (by omega) (by omega)
        · rw [if_neg d, if_neg d, bn3_e, p_findE]
          exact ⟨_, _, _, _, _, _, rfl⟩
      · rw [if_neg e, if_neg e, bn3_e, p_findO]
        exact ⟨_, _, _, _, _, _, rfl⟩
    · rw [if_neg b, if_neg b, p_sep1, bn3_e, p_findE]
      exact ⟨_, _, _, _, _, _, rfl⟩
theorem p_find (hf : 2000 ≤ fl) (hM : M ≤ 60) (hc : ∀ j, j < M → okC (TX j) = true) : ∃ a' f' s nu we ru, F_X5_findFault fl (nI M) at' fy TX o1 o2 o3 o4 = some ((match ps M TX 61 0 with | some x => nI x | none => -1), a', f', s, nu, we, ru) := by
  unfold F_X5_findFault F_X5_rewind
  rw [bn2_e]
  exact p_findL hf hM hc 61 0 0 fl o1 o2 o3 o4 (by omega) (by omega) (by omega) (by omega)
variable {un ft rs dt ix an T : Int32} {now tr kp : Nat → Int32}
theorem q_f0 {m : Nat} : F_X8_commands_19 fl TX (m + 1) un (nI M) at' od ft rs dt ix an T now tr kp told 0 = some (0, un, 0, at', od, at', rs, dt, ix, an, 1, now, tr, kp, told) := by
  rw [F_X8_commands_19, if_pos rfl, if_pos rfl]; rfl
theorem q_faultL (hf : 2000 ≤ fl) (hM : M ≤ 60) (hc : ∀ j, j < M → okC (TX j) = true) : ∀ (f q m : Nat) (od : Int32) (told : Nat → Int32), M - q < f → q ≤ M → M - q + 3 ≤ m → ∀ (r a' od2 : Int32) (t2 : Nat → Int32), F_X8_isCommand fl (nI M) (nI q) od TX told = some (r, a', od2, t2) →
    ∃ od' told', F_X8_commands_19 fl TX m un (nI M) a' od2 ft rs dt ix an T now tr kp t2 r = (match ps M TX f q with | some x => some (0, un, 0, nI x, od', nI x, rs, dt, ix, an, 1, now, tr, kp, told') | none => F_X8_commands_91 fl TX fl un (nI M) 0 od' ft rs dt ix an T now tr kp told' 1 0 1) := by
  intro f
  induction f with
  | zero => intro q m od told h1; omega
  | succ f ih =>
    intro q m od told h1 hq hm r a' od2 t2 hI
    obtain ⟨m, rfl⟩ : ∃ z, m = z + 2 := ⟨m - 2, by omega⟩
    obtain ⟨s, nu, we, ru, od', t', -, g2, -⟩ := r_order (fl := fl) (TX := TX) (told := told) (od := od) (o1 := 0) (o2 := 0) (o3 := 0) (o4 := 0) hf hM hq hc
    obtain ⟨l1, l2, l3⟩ := oQ_le (TX := TX) hq
    obtain ⟨rfl, rfl, rfl, rfl⟩ : _ ∧ _ ∧ _ ∧ _ := inj4 (g2.symm.trans hI)
    rw [ps]
    by_cases b : oB M TX q = true
    · rw [if_pos b, if_pos b, F_X8_commands_19, if_neg (by decide)]
      by_cases e : oQ M TX q < M
      · rw [if_neg (fun z => by have := (nI_leI (by omega) (by omega)).mp z; omega), q_sign hM l2, if_pos e]
        by_cases d : TX (oQ M TX q) = 59
        · have := l3 b
          obtain ⟨s, nu, we, ru, od3, t3, -, g3, -⟩ := r_order (fl := fl) (TX := TX) (told := t') (od := od') (q := oQ M TX q + 1) (o1 := 0) (o2 := 0) (o3 := 0) (o4 := 0) hf hM (by omega) hc
          have i1 := ih (oQ M TX q + 1) (m + 1) od' t' (by omega) (by omega) (by omega) _ _ _ _ g3
          rw [if_pos (show hs M TX (oQ M TX q) 59 = true from decide_eq_true ⟨e, d⟩), bn2_e, if_neg (by decide), g3, bn4_e, if_pos d]
          by_cases b2 : oB M TX (oQ M TX q + 1) = true
          · rw [if_pos b2] at i1
            rw [if_pos b2, if_neg (by decide)]; exact i1
          · rw [if_neg b2] at i1
            rw [if_neg b2, if_pos rfl]; exact i1
        · rw [if_neg (show ¬ hs M TX (oQ M TX q) 59 = true from fun z => d (of_decide_eq_true z).2), bn2_e, if_pos rfl, if_neg d, q_f0]
          exact ⟨_, _, rfl⟩
      · rw [if_pos ((nI_leI (by omega) (by omega)).mpr (by omega)), if_neg (by decide), if_neg e]
        exact ⟨_, _, rfl⟩
    · rw [if_neg b, if_neg b, q_f0]
      exact ⟨_, _, rfl⟩
