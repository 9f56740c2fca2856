/-! texts, over ghosts -/
variable {fl n : Nat} {ks ws ts a tx : Nat → Int32} {key lev hid cn ct' ch z : Int32} {rs dt ix an x3 d0 sg no de o1 o2 o3 o4 ra rf lf ln : Int32}
variable {nw am : Int32} {rk rw' rt : Nat → Nat → Int32} {rz rh rn' ro rd : Nat → Int32} {us : List Lad} {b1 b2 b6 b7 b8 : Int32} {b3 b4 b5 : Nat → Int32}
variable {TX : Nat → Int32} {M : Nat}
theorem n_secondL (hM : M ≤ 60) (hc : ∀ j, j < M → okC (TX j) = true) : ∀ (f q k m n : Nat) (hid : Int32) (ks ws ts : Nat → Int32) (cn ct ch : Int32) (a : Nat → Int32) (de rs dt ix o1 o2 o3 o4 : Int32),
    LI n ks ts hid → MR n ks ws ts cn ct ch hid a → WG n ws → ps M TX f q = none → M - q < f → q ≤ M → 2 * k ≤ q → M - q + 2 ≤ m →
    ∃ v z2 hid2 ks2 ws2 ts2 cn2 ct2 ch2 de2 r d ki s1 s2 s3 s4 at2 fy2,
      F_X7_carryOutText_11 2000 (nI M) TX m (nI n) hid ks ws ts cn ct ch de rs dt ix o1 o2 o3 o4 (nI q) 0 (nI k) 1 = some (v, z2, hid2, ks2, ws2, ts2, cn2, ct2, ch2, de2, r, d, ki, s1, s2, s3, s4, at2, fy2) ∧
      (v = -1 ∨ (∃ K, K ≤ 60 ∧ v = nI K) ∧ r = rs ∧ d = dt ∧ ki = ix ∧ (∃ a8, LL z2 hid2 ks2 ws2 ts2 cn2 ct2 ch2 a8) ∧ WG z2.toNatClampNeg ws2) := by
  intro f
  induction f with
  | zero => intro q k m n hid ks ws ts cn ct ch a de rs dt ix o1 o2 o3 o4 hl h hW hp h1; omega
  | succ f ih =>
    intro q k m n hid ks ws ts cn ct ch a de rs dt ix o1 o2 o3 o4 hl h hW hp h1 hq hk hm
    obtain ⟨m, rfl⟩ : ∃ z, m = z + 2 := ⟨m - 2, by omega⟩
    obtain ⟨s, nu, we, ru, od', t', g1, g2, g3⟩ := r_order (fl := 2000) (TX := TX) (told := fun _ => 0) (od := 0) (o1 := o1) (o2 := o2) (o3 := o3) (o4 := o4) (Nat.le_refl 2000) hM hq hc
    obtain ⟨l1, l2, l3⟩ := oQ_le (TX := TX) hq
    rw [ps] at hp
    by_cases b : oB M TX q = true
    · rw [if_pos b] at hp
      rw [if_pos b] at g1
      have hC := r_carries (fl := 2000) (ws := ws) (rs := rs) (dt := dt) (ix := ix) (an := 0) (Nat.le_refl 2000) hl h (g3 b)
      have hK := k_text (fl := 2000) (ws := ws) (Nat.le_refl 2000) hl h (g3 b)
      rw [F_X7_carryOutText_11, if_neg (by decide), if_neg (fun z => by have := (nI_leI (a := 60) (by omega) (by omega)).mp z; omega), g1, bn6_e]
      unfold F_X0_refuses
      rcases hC with ⟨r, d, h0, x1, x2⟩ | ⟨d, v, z', hid', ks', ws', ts', cn', ct'', ch', a', x1, x2, x3, x4⟩
      · refine ⟨-1, nI n, hid, ks, ws, ts, cn, ct, ch, d, r, d, nI k, s, nu, we, ru, nI (oQ M TX q), 0, ?_, Or.inl rfl⟩
        rw [x1, bn2_e, if_neg h0, bn5_e, if_neg (by decide)]
      · obtain ⟨-, hW'⟩ := hK hW _ _ _ _ _ _ _ _ _ _ x1 x2
        rw [x1, bn2_e, if_pos rfl, bn5_e, if_pos rfl, x2, bn9_e, p_sep hM l2 hc, nI_1]
        by_cases e : oQ M TX q < M
        · rw [if_pos e] at hp
          by_cases d9 : TX (oQ M TX q) = 59
          · rw [if_pos d9] at hp
            have := l3 b
            obtain ⟨n', rfl, hl', hM'⟩ := x4
            have hn' := hl'.1
            rw [nI_clamp (by omega)] at hW'
            rw [if_pos e, if_pos d9, bn3_e]
            exact ih (oQ M TX q + 1) (k + 1) (m + 1) n' hid' ks' ws' ts' cn' ct'' ch' a' d rs dt ix s nu we ru hl' hM' hW' hp (by omega) (by omega) (by omega) (by omega)
          · rw [if_neg d9] at hp; cases hp
        · rw [if_neg e, bn3_e]
          refine ⟨nI (k + 1), z', hid', ks', ws', ts', cn', ct'', ch', d, rs, dt, ix, s, nu, we, ru, nI (oQ M TX q), 0, ?_, Or.inr ⟨⟨k + 1, by omega, rfl⟩, rfl, rfl, rfl, ⟨a', x4⟩, hW'⟩⟩
          rw [F_X7_carryOutText_11, if_pos rfl]
    · rw [if_neg b] at hp; cases hp
/-- a text of commands: a fault, a refusal, or all of it carried out -/
theorem n_commands (hL : LL z hid ks ws ts cn ct' ch a) (hG : GL (NRM z hid ks ws ts cn ct' ch)) (hH : HU nw am rk rw' rt rz rh rn' ro rd us) (hM : M ≤ 60) (hc : ∀ j, j < M → okC (tx j) = true) :
    ∃ kk r lf2 z2 hid2 ks2 ws2 ts2 cn2 ct2 ch2 de2 rs2 dt2 ix2 s1 s2 s3 s4 ra2 rf2 nw2 am2 rk2 rw2 rt2 rz2 rh2 rn2 ro2 rd2 c1 c2 c3 c4 c5 c6 c7 c8,
      F_X7_commands 2000 lf z hid ks ws ts cn ct' ch de rs dt ix o1 o2 o3 o4 (nI M) ra rf tx nw am rk rw' rt rz rh rn' ro rd b1 b2 b3 b4 b5 b6 b7 b8 = some (kk, r, lf2, z2, hid2, ks2, ws2, ts2, cn2, ct2, ch2, de2, rs2, dt2, ix2, s1, s2, s3, s4, 0, ra2, rf2, nw2, am2, rk2, rw2, rt2, rz2, rh2, rn2, ro2, rd2, c1, c2, c3, c4, c5, c6, c7, c8) ∧ (∃ a2, LL z2 hid2 ks2 ws2 ts2 cn2 ct2 ch2 a2) ∧ GL (NRM z2 hid2 ks2 ws2 ts2 cn2 ct2 ch2) ∧
      ((kk = 1 ∧ r = 0 ∧ NRM z2 hid2 ks2 ws2 ts2 cn2 ct2 ch2 = NRM z hid ks ws ts cn ct' ch ∧ HU nw2 am2 rk2 rw2 rt2 rz2 rh2 rn2 ro2 rd2 us ∧ rs2 = rs ∧ dt2 = dt ∧ ix2 = ix ∧ ∃ x, ps M tx 61 0 = some x ∧ lf2 = nI x) ∨
       (ps M tx 61 0 = none ∧ lf2 = -1 ∧ ∃ s nu we ru v y2 y3 y4 y5 y6 y7 y8 y9 y10 y14 y15 y16 y17 y18 y19, F_X7_carryOutText_11 2000 (nI M) tx 2000 z hid ks ws ts cn ct' ch de rs dt ix s nu we ru 0 0 0 1 = some (v, y2, y3, y4, y5, y6, y7, y8, y9, y10, rs2, dt2, ix2, y14, y15, y16, y17, y18, y19) ∧
         ((v = -1 ∧ kk = 4 ∧ r = 0 ∧ NRM z2 hid2 ks2 ws2 ts2 cn2 ct2 ch2 = NRM z hid ks ws ts cn ct' ch ∧ HU nw2 am2 rk2 rw2 rt2 rz2 rh2 rn2 ro2 rd2 us) ∨
          (kk = 0 ∧ r = v ∧ 0 ≤ v ∧ HU nw2 am2 rk2 rw2 rt2 rz2 rh2 rn2 ro2 rd2 (push (NRM z hid ks ws ts cn ct' ch) us))))) := by
  obtain ⟨a', f', s, nu, we, ru, e1⟩ := p_find (fl := 2000) (TX := tx) (at' := ra) (fy := rf) (o1 := o1) (o2 := o2) (o3 := o3) (o4 := o4) (Nat.le_refl 2000) hM hc
  unfold F_X7_commands F_X5_clear
  rw [e1, bn7_e]
  cases hp : ps M tx 61 0 with
  | some x =>
    have hx : x < 2 ^ 31 := by have := ps_le 61 0 x (Nat.zero_le M) hp; omega
    show ∃ kk r lf2 z2 hid2 ks2 ws2 ts2 cn2 ct2 ch2 de2 rs2 dt2 ix2 s1 s2 s3 s4 ra2 rf2 nw2 am2 rk2 rw2 rt2 rz2 rh2 rn2 ro2 rd2 c1 c2 c3 c4 c5 c6 c7 c8, (if nI x = -1 then _ else _) = _ ∧ _
    rw [if_neg (nI_nm1 hx), bn_e]
    exact ⟨_, _, _, _, _, _, _, _, _, _, _, _, _, _, _, _, _, _, _, _, _, _, _, _, _, _, _, _, _, _, _, _, _, _, _, _, _, _, _, rfl, ⟨a, hL⟩, hG, Or.inl ⟨rfl, rfl, rfl, hH, rfl, rfl, rfl, x, rfl, rfl⟩⟩
  | none =>
    show ∃ kk r lf2 z2 hid2 ks2 ws2 ts2 cn2 ct2 ch2 de2 rs2 dt2 ix2 s1 s2 s3 s4 ra2 rf2 nw2 am2 rk2 rw2 rt2 rz2 rh2 rn2 ro2 rd2 c1 c2 c3 c4 c5 c6 c7 c8, (if (-1 : Int32) = -1 then _ else _) = _ ∧ _
    obtain ⟨kB, wB, tB, eB, hB, hNB⟩ := n_copy (fl := 2000) hL (s1 := b1) (s2 := b2) (s3 := b3) (s4 := b4) (s5 := b5) (s6 := b6) (s7 := b7) (s8 := b8)
    have hL0 := hL
    obtain ⟨n, rfl, hl, hMR⟩ := hL
    have hn := hl.1
    have hW : WG n ws := by have := GL_w hG hL0; rw [nI_clamp (by omega)] at this; exact this
    rw [if_pos rfl, eB, bn8_e]
    unfold F_X7_carryOutText F_X5_rewind
    rw [bn2_e]
    obtain ⟨v, z2, hid2, ks2, ws2, ts2, cn2, ct2, ch2, de2, r, d, ki, s1, s2, s3, s4, at2, fy2, x1, x2⟩ := n_secondL (TX := tx) hM hc 61 0 0 2000 n hid ks ws ts cn ct' ch a de rs dt ix s nu we ru hl hMR hW hp (by omega) (Nat.zero_le M) (by omega) (by omega)
    have x1' : F_X7_carryOutText_11 2000 (nI M) tx 2000 (nI n) hid ks ws ts cn ct' ch de rs dt ix s nu we ru 0 0 0 1 = _ := x1
    rcases x2 with rfl | ⟨⟨K, hK, rfl⟩, rfl, rfl, rfl, ⟨a8, x3⟩, x4⟩
    · obtain ⟨kC, wC, tC, eC, hC, hNC⟩ := n_copy (fl := 2000) hB (s1 := z2) (s2 := hid2) (s3 := ks2) (s4 := ws2) (s5 := ts2) (s6 := cn2) (s7 := ct2) (s8 := ch2)
      rw [x1', bn19_e, bn_e, if_pos rfl, eC, bn8_e]
      exact ⟨_, _, _, _, _, _, _, _, _, _, _, _, _, _, _, _, _, _, _, _, _, _, _, _, _, _, _, _, _, _, _, _, _, _, _, _, _, _, _, rfl, ⟨a, hC⟩, by rw [hNC, hNB]; exact hG, Or.inr ⟨rfl, rfl, s, nu, we, ru, _, _, _, _, _, _, _, _, _, _, _, _, _, _, _, _, x1', Or.inl ⟨rfl, rfl, rfl, by rw [hNC, hNB], hH⟩⟩⟩
    · obtain ⟨nw2, am2, rk2, rw2, rt2, rs2, rh2, rn2, ro2, rd2, y1, y3⟩ := n_keep (fl := 2000) hB (by rw [hNB]; exact hG) hH
      rw [hNB] at y3
      rw [x1', bn19_e, bn_e, if_neg (nI_nm1 (by omega)), y1, bn10_e]
      exact ⟨_, _, _, _, _, _, _, _, _, _, _, _, _, _, _, _, _, _, _, _, _, _, _, _, _, _, _, _, _, _, _, _, _, _, _, _, _, _, _, rfl, ⟨a8, x3⟩, GL_i x3 x4, Or.inr ⟨rfl, rfl, s, nu, we, ru, _, _, _, _, _, _, _, _, _, _, _, _, _, _, _, _, x1', Or.inr ⟨rfl, rfl, nI_ge0 (by omega), y3⟩⟩⟩
