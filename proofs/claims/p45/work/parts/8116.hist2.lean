/-! the ring and the reference's row of kept states -/
variable {fl n : Nat} {ks ws ts a b : Nat → Int32} {key lev hid cn ct' ch z : Int32}
variable {nw am un : Int32} {rk rw' rt : Nat → Nat → Int32} {rs rh rn ro rd kp : Nat → Int32}
def HR (nw am : Int32) (rk rw rt : Nat → Nat → Int32) (rs rh rn ro rd : Nat → Int32) (un : Int32) (kp : Nat → Int32) : Prop :=
  ∃ m p, m ≤ 8 ∧ p < 8 ∧ nw = nI p ∧ am = nI m ∧ un = nI m ∧ ∀ s, s < m → LL (rs ((p + 9 + s - m) % 8)) (rh ((p + 9 + s - m) % 8)) (rk ((p + 9 + s - m) % 8)) (rw ((p + 9 + s - m) % 8)) (rt ((p + 9 + s - m) % 8)) (rn ((p + 9 + s - m) % 8)) (ro ((p + 9 + s - m) % 8)) (rd ((p + 9 + s - m) % 8)) (fun x => kp (77 * s + x))
theorem p_ring {p : Nat} (h : p < 8) : F_X2_newestKept fl (nI p) = some p := by
  unfold F_X2_newestKept
  rw [if_neg (nI_nlt0 (by omega)), if_neg (fun q => by have := (nI_leI (a := 8) (by omega) (by omega)).mp q; omega), g_lit h (by decide), nI_clamp (by omega)]
theorem rg_up : ∀ p : Fin 8, (nI p.val + (1 : Int32)) - (nI p.val + (1 : Int32)) / (8 : Int32) * (8 : Int32) = nI ((p.val + 1) % 8) := by decide +kernel
theorem rg_dn : ∀ p : Fin 8, (nI p.val + (8 : Int32) - (1 : Int32)) - (nI p.val + (8 : Int32) - (1 : Int32)) / (8 : Int32) * (8 : Int32) = nI ((p.val + 7) % 8) := by decide +kernel
theorem am_up : ∀ m : Fin 9, (if (8 : Int32) < nI m.val + 1 then (8 : Int32) else nI m.val + 1) = nI (if m.val = 8 then 8 else m.val + 1) := by decide +kernel
theorem r_keep (hf : 2000 ≤ fl) (hL : LL z hid ks ws ts cn ct' ch a) (hH : HR nw am rk rw' rt rs rh rn ro rd un kp) {v : Int32} : ∃ nw2 am2 rk2 rw2 rt2 rs2 rh2 rn2 ro2 rd2 un2 kp2,
    F_X2_keep fl nw am rk rw' rt rs rh rn ro rd z hid ks ws ts cn ct' ch = some (nw2, am2, rk2, rw2, rt2, rs2, rh2, rn2, ro2, rd2) ∧ F_X8_keeps fl un a kp v = some (v, un2, kp2) ∧ HR nw2 am2 rk2 rw2 rt2 rs2 rh2 rn2 ro2 rd2 un2 kp2 := by
  obtain ⟨m, p, hm, hp, rfl, rfl, rfl, hS⟩ := hH
  have hj : (p + 1) % 8 < 8 := Nat.mod_lt _ (by decide)
  obtain ⟨ks', ws', ts', e1, hL'⟩ := p_copy (fl := fl) hL (s1 := rs ((p + 1) % 8)) (s2 := rh ((p + 1) % 8)) (s3 := rk ((p + 1) % 8)) (s4 := rw' ((p + 1) % 8)) (s5 := rt ((p + 1) % 8)) (s6 := rn ((p + 1) % 8)) (s7 := ro ((p + 1) % 8)) (s8 := rd ((p + 1) % 8))
  have eK : F_X2_keep fl (nI p) (nI m) rk rw' rt rs rh rn ro rd z hid ks ws ts cn ct' ch = some (nI ((p + 1) % 8), nI (if m = 8 then 8 else m + 1), va_up rk ((p + 1) % 8) ks', va_up rw' ((p + 1) % 8) ws', va_up rt ((p + 1) % 8) ts', va_up rs ((p + 1) % 8) z, va_up rh ((p + 1) % 8) hid, va_up rn ((p + 1) % 8) cn, va_up ro ((p + 1) % 8) ct', va_up rd ((p + 1) % 8) ch) := by
    unfold F_X2_keep F_X2_keepS
    simp only [lt]
    rw [rg_up ⟨p, hp⟩, p_ring hj, bn_e, bn_e, gd_e rfl, e1, bn8_e, show (if (8 : Int32) < nI m + 1 then (8 : Int32) else nI m + 1) = nI (if m = 8 then 8 else m + 1) from am_up ⟨m, by omega⟩, bn10_e]
  have hq := q_keeps (fl := fl) (kp := kp) (tr := a) (v := v) hf hm
  by_cases c : m = 8
  · rw [if_pos c] at eK hq
    subst c
    refine ⟨_, _, _, _, _, _, _, _, _, _, _, _, eK, hq, 8, (p + 1) % 8, by omega, hj, rfl, rfl, rfl, fun s hs => ?_⟩
    by_cases e : s = 7
    · subst e
      have i1 : ((p + 1) % 8 + 9 + 7 - 8) % 8 = (p + 1) % 8 := by omega
      rw [i1, va_up_self, va_up_self, va_up_self, va_up_self, va_up_self, va_up_self, va_up_self, va_up_self]
      exact LL_a hL' (fun i hi => by
        show cpy a (cpy kp kp 77 0 539) 0 539 77 (77 * 7 + i) = a i
        rw [show 77 * 7 + i = 539 + i by omega, cpy_in hi, Nat.zero_add])
    · have i1 : ((p + 1) % 8 + 9 + s - 8) % 8 = (p + 9 + (s + 1) - 8) % 8 := by omega
      have i2 : (p + 9 + (s + 1) - 8) % 8 ≠ (p + 1) % 8 := by omega
      rw [i1, va_up_ne _ _ i2, va_up_ne _ _ i2, va_up_ne _ _ i2, va_up_ne _ _ i2, va_up_ne _ _ i2, va_up_ne _ _ i2, va_up_ne _ _ i2, va_up_ne _ _ i2]
      exact LL_a (hS (s + 1) (by omega)) (fun i hi => by
        show cpy a (cpy kp kp 77 0 539) 0 539 77 (77 * s + i) = kp (77 * (s + 1) + i)
        rw [cpy_lo (by omega)]
        have e2 : cpy kp kp 77 0 539 (0 + (77 * s + i)) = kp (77 + (77 * s + i)) := cpy_in (by omega)
        rw [Nat.zero_add] at e2
        rw [e2, show 77 + (77 * s + i) = 77 * (s + 1) + i by omega])
  · rw [if_neg c] at eK hq
    refine ⟨_, _, _, _, _, _, _, _, _, _, _, _, eK, hq, m + 1, (p + 1) % 8, by omega, hj, rfl, rfl, rfl, fun s hs => ?_⟩
    by_cases e : s = m
    · subst e
      have i1 : ((p + 1) % 8 + 9 + s - (s + 1)) % 8 = (p + 1) % 8 := by omega
      rw [i1, va_up_self, va_up_self, va_up_self, va_up_self, va_up_self, va_up_self, va_up_self, va_up_self]
      exact LL_a hL' (fun i hi => by
        show cpy a kp 0 (77 * s) 77 (77 * s + i) = a i
        rw [cpy_in hi, Nat.zero_add])
    · have i1 : ((p + 1) % 8 + 9 + s - (m + 1)) % 8 = (p + 9 + s - m) % 8 := by omega
      have i2 : (p + 9 + s - m) % 8 ≠ (p + 1) % 8 := by omega
      rw [i1, va_up_ne _ _ i2, va_up_ne _ _ i2, va_up_ne _ _ i2, va_up_ne _ _ i2, va_up_ne _ _ i2, va_up_ne _ _ i2, va_up_ne _ _ i2, va_up_ne _ _ i2]
      exact LL_a (hS s (by omega)) (fun i hi => by
        show cpy a kp 0 (77 * m) 77 (77 * s + i) = kp (77 * s + i)
        rw [cpy_lo (by omega)])
/-- undo: nothing is kept, or the newest comes back -/
theorem r_undo (hf : 2000 ≤ fl) (hL : LL z hid ks ws ts cn ct' ch a) (hH : HR nw am rk rw' rt rs rh rn ro rd un kp) {th : Int32} :
    (F_X7_undo fl z hid ks ws ts cn ct' ch nw am rk rw' rt rs rh rn ro rd = some (5, 0, z, hid, ks, ws, ts, cn, ct', ch, nw, am) ∧ F_X8_undo fl un th a kp = some (0, un, 1, a)) ∨
    ∃ r z2 hid2 ks2 ws2 ts2 cn2 ct2 ch2 nw2 un2 a2, F_X7_undo fl z hid ks ws ts cn ct' ch nw am rk rw' rt rs rh rn ro rd = some (0, r, z2, hid2, ks2, ws2, ts2, cn2, ct2, ch2, nw2, r) ∧ F_X8_undo fl un th a kp = some (r, un2, 0, a2) ∧ LL z2 hid2 ks2 ws2 ts2 cn2 ct2 ch2 a2 ∧ HR nw2 r rk rw' rt rs rh rn ro rd un2 kp := by
  obtain ⟨m, p, hm, hp, rfl, rfl, rfl, hS⟩ := hH
  unfold F_X7_undo F_X2_takeBack F_X2_takeBackS F_X8_undo F_X8_raises F_X2_amount
  rw [p_ring hp, bn_e, bn_e, gd_e rfl]
  by_cases c : m = 0
  · subst c
    rw [if_pos nI_0, if_pos nI_0]
    exact Or.inl ⟨rfl, rfl⟩
  · obtain ⟨m, rfl⟩ : ∃ q, m = q + 1 := ⟨m - 1, by omega⟩
    rw [if_neg (nI_ne0 (by omega) (by omega)), if_neg (nI_ne0 (by omega) (by omega)), show nI (m + 1) - 1 = nI m from pk_sub (b := 1) (by omega)]
    have hl := hS m (by omega)
    rw [show (p + 9 + m - (m + 1)) % 8 = p by omega] at hl
    obtain ⟨ks', ws', ts', e1, hL'⟩ := p_copy (fl := fl) hl (s1 := z) (s2 := hid) (s3 := ks) (s4 := ws) (s5 := ts) (s6 := cn) (s7 := ct') (s8 := ch)
    have e := q_undoL (fl := fl) (kp := kp) (now := a) (u := m) (th := 0) (by omega) 77 0 fl (by omega) (by omega)
    rw [cpy_0] at e
    rw [e1]
    simp only [lt]
    rw [bn8_e, rg_dn ⟨p, hp⟩]
    refine Or.inr ⟨nI m, rs p, rh p, ks', ws', ts', rn p, ro p, rd p, nI ((p + 7) % 8), nI m, _, rfl, e, LL_a hL' (fun i hi => ?_), m, (p + 7) % 8, by omega, Nat.mod_lt _ (by decide), rfl, rfl, rfl, fun s hs => ?_⟩
    · have e2 := cpy_in (f := kp) (g := a) (o := 77 * m) (d := 0) hi
      rw [Nat.zero_add] at e2; exact e2
    · rw [show ((p + 7) % 8 + 9 + s - m) % 8 = (p + 9 + s - (m + 1)) % 8 by omega]
      exact hS s (by omega)
