/-! texts: carried out by both -/
variable {fl : Nat} {TX tr kp : Nat → Int32} {M : Nat} {un ft T : Int32}
theorem r_secondL (hf : 2000 ≤ fl) (hM : M ≤ 60) (hc : ∀ j, j < M → okC (TX j) = true) : ∀ (f q k m m' n : Nat) (hid : Int32) (ks ws ts : Nat → Int32) (cn ct ch : Int32) (a : Nat → Int32) (de rs dt ix o1 o2 o3 o4 od an : Int32) (told : Nat → Int32),
    LI n ks ts hid → MR n ks ws ts cn ct ch hid a → ps M TX f q = none → M - q < f → q ≤ M → 2 * k ≤ q → M - q + 2 ≤ m → M - q + 2 ≤ m' →
    (∃ z2 hid2 ks2 ws2 ts2 cn2 ct2 ch2 de2 r d ki s1 s2 s3 s4 at2 fy2 at8 od8 an8 a8 told8,
      F_X7_carryOutText_11 fl (nI M) TX m (nI n) hid ks ws ts cn ct ch de rs dt ix o1 o2 o3 o4 (nI q) 0 (nI k) 1 = some (-1, z2, hid2, ks2, ws2, ts2, cn2, ct2, ch2, de2, r, d, ki, s1, s2, s3, s4, at2, fy2) ∧
      F_X8_commands_91 fl TX m' un (nI M) (nI q) od ft rs dt ix an T a tr kp told 1 (nI k) 1 = some (0, un, 0, at8, od8, ft, r, d, ki, an8, 2, a8, tr, kp, told8) ∧ ∀ i, i < 77 → a8 i = tr i) ∨
    (∃ K z2 hid2 ks2 ws2 ts2 cn2 ct2 ch2 de2 s1 s2 s3 s4 at2 fy2 at8 od8 an8 a8 told8, K ≤ 60 ∧
      F_X7_carryOutText_11 fl (nI M) TX m (nI n) hid ks ws ts cn ct ch de rs dt ix o1 o2 o3 o4 (nI q) 0 (nI k) 1 = some (nI K, z2, hid2, ks2, ws2, ts2, cn2, ct2, ch2, de2, rs, dt, ix, s1, s2, s3, s4, at2, fy2) ∧
      F_X8_commands_91 fl TX m' un (nI M) (nI q) od ft rs dt ix an T a tr kp told 1 (nI k) 1 = (bn3 (F_X8_keeps fl un tr kp (nI K)) fun r un2 kp2 => some (r, un2, 0, at8, od8, ft, rs, dt, ix, an8, T, a8, tr, kp2, told8)) ∧ LL z2 hid2 ks2 ws2 ts2 cn2 ct2 ch2 a8) := by
  intro f
  induction f with
  | zero => intro q k m m' n hid ks ws ts cn ct ch a de rs dt ix o1 o2 o3 o4 od an told hl h hp h1; omega
  | succ f ih =>
    intro q k m m' n hid ks ws ts cn ct ch a de rs dt ix o1 o2 o3 o4 od an told hl h hp h1 hq hk hm hm'
    obtain ⟨m, rfl⟩ : ∃ z, m = z + 2 := ⟨m - 2, by omega⟩
    obtain ⟨m', rfl⟩ : ∃ z, m' = z + 2 := ⟨m' - 2, by omega⟩
    obtain ⟨s, nu, we, ru, od', t', g1, g2, g3⟩ := r_order (fl := fl) (TX := TX) (told := told) (od := od) (o1 := o1) (o2 := o2) (o3 := o3) (o4 := o4) hf hM hq hc
    obtain ⟨l1, l2, l3⟩ := oQ_le (TX := TX) hq
    rw [ps] at hp
    by_cases b : oB M TX q = true
    · rw [if_pos b] at hp
      rw [if_pos b] at g1 g2
      have hC := r_carries (fl := fl) (ws := ws) (rs := rs) (dt := dt) (ix := ix) (an := an) hf hl h (g3 b)
      rw [F_X7_carryOutText_11, if_neg (by decide), if_neg (fun z => by have := (nI_leI (a := 60) (by omega) (by omega)).mp z; omega), g1, bn6_e, F_X8_commands_91, if_neg (by decide), g2, bn4_e, if_neg (by decide)]
      unfold F_X0_refuses
      rcases hC with ⟨r, d, h0, x1, x2⟩ | ⟨d, v, z', hid', ks', ws', ts', cn', ct'', ch', a', x1, x2, x3, x4⟩
      · refine Or.inl ⟨nI n, hid, ks, ws, ts, cn, ct, ch, d, r, d, nI k, s, nu, we, ru, nI (oQ M TX q), 0, nI (oQ M TX q), od', an, cpy tr a 0 0 77, t', ?_, ?_, fun i hi => ?_⟩
        · rw [x1, bn2_e, if_neg h0, bn5_e, if_neg (by decide)]
        · rw [x2, bn6_e, if_pos rfl, if_pos rfl, if_pos rfl, F_X8_commands_91, if_pos rfl, if_pos rfl, q_back hf, bn_e]
          unfold F_X8_raises
          rw [bn2_e]
        · have e := cpy_in (f := tr) (g := a) (o := 0) (d := 0) hi
          rw [Nat.zero_add] at e; exact e
      · rw [x1, bn2_e, if_pos rfl, bn5_e, if_pos rfl, x2, bn9_e, p_sep hM l2 hc, x3, bn6_e, if_neg (show ¬ (1 : Int32) = 0 by decide), if_neg (show ¬ (1 : Int32) = 0 by decide), if_neg (show ¬ (1 : Int32) = 0 by decide), q_sign hM l2, nI_1]
        by_cases e : oQ M TX q < M
        · rw [if_pos e] at hp
          by_cases d9 : TX (oQ M TX q) = 59
          · rw [if_pos d9] at hp
            have := l3 b
            obtain ⟨n', rfl, hl', hM'⟩ := x4
            rw [if_pos e, if_pos d9, bn3_e, if_pos (show hs M TX (oQ M TX q) 59 = true from decide_eq_true ⟨e, d9⟩), bn2_e, if_neg (show ¬ (1 : Int32) = 0 by decide)]
            exact ih (oQ M TX q + 1) (k + 1) (m + 1) (m' + 1) n' hid' ks' ws' ts' cn' ct'' ch' a' d rs dt ix s nu we ru od' v t' hl' hM' hp (by omega) (by omega) (by omega) (by omega) (by omega)
          · rw [if_neg d9] at hp; cases hp
        · rw [if_neg e, bn3_e, if_neg (show ¬ hs M TX (oQ M TX q) 59 = true from fun z => e (of_decide_eq_true z).1), bn2_e, if_pos rfl]
          refine Or.inr ⟨k + 1, z', hid', ks', ws', ts', cn', ct'', ch', d, s, nu, we, ru, nI (oQ M TX q), 0, nI (oQ M TX q), od', v, a', t', by omega, ?_, ?_, x4⟩
          · rw [F_X7_carryOutText_11, if_pos rfl]
          · rw [F_X8_commands_91, if_pos rfl, if_neg (by decide)]
    · rw [if_neg b] at hp; cases hp
