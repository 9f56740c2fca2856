/-! commands -/
variable {fl n : Nat} {ks ws ts a tr tx told : Nat → Int32} {hid cn ct' ch z : Int32} {rs dt ix an un T de o1 o2 o3 o4 ra rf lf ord ft at8 ln : Int32}
variable {nw am : Int32} {rk rw' rt : Nat → Nat → Int32} {rz rh rn' ro rd kp : Nat → Int32} {b1 b2 b6 b7 b8 : Int32} {b3 b4 b5 : Nat → Int32}
theorem ps_le {TX : Nat → Int32} {M : Nat} : ∀ (f q x : Nat), q ≤ M → ps M TX f q = some x → x ≤ M := by
  intro f
  induction f with
  | zero => intro q x h e; rw [ps] at e; cases e; exact h
  | succ f ih =>
    intro q x h e
    obtain ⟨l1, l2, -⟩ := oQ_le (TX := TX) h
    rw [ps] at e
    by_cases b : oB M TX q = true
    · rw [if_pos b] at e
      by_cases c : oQ M TX q < M
      · rw [if_pos c] at e
        by_cases d : TX (oQ M TX q) = 59
        · rw [if_pos d] at e; exact ih _ _ c e
        · rw [if_neg d] at e; cases e; exact l2
      · rw [if_neg c] at e; cases e
    · rw [if_neg b] at e; cases e; exact l2
theorem m_commands (hf : 2000 ≤ fl) (hL : LL z hid ks ws ts cn ct' ch a) (hH : HR nw am rk rw' rt rz rh rn' ro rd un kp) (hT : TXT ln tx) :
    ∃ kk r lf2 z2 hid2 ks2 ws2 ts2 cn2 ct2 ch2 de2 rs2 dt2 ix2 s1 s2 s3 s4 ra2 rf2 nw2 am2 rk2 rw2 rt2 rz2 rh2 rn2 ro2 rd2 c1 c2 c3 c4 c5 c6 c7 c8 b un2 at2 od2 an2 th2 a2 tr2 kp2 told2,
      F_X7_commands fl lf z hid ks ws ts cn ct' ch de rs dt ix o1 o2 o3 o4 ln ra rf tx nw am rk rw' rt rz rh rn' ro rd b1 b2 b3 b4 b5 b6 b7 b8 = some (kk, r, lf2, z2, hid2, ks2, ws2, ts2, cn2, ct2, ch2, de2, rs2, dt2, ix2, s1, s2, s3, s4, 0, ra2, rf2, nw2, am2, rk2, rw2, rt2, rz2, rh2, rn2, ro2, rd2, c1, c2, c3, c4, c5, c6, c7, c8) ∧
      F_X8_commands fl un ln at8 ord ft rs dt ix an T a tr kp tx told = some (b, un2, 0, at2, od2, lf2, rs2, dt2, ix2, an2, th2, a2, tr2, kp2, told2) ∧
      OU2 1 4 kk r b th2 ∧ LL z2 hid2 ks2 ws2 ts2 cn2 ct2 ch2 a2 ∧ HR nw2 am2 rk2 rw2 rt2 rz2 rh2 rn2 ro2 rd2 un2 kp2 := by
  obtain ⟨M, hM, rfl, hc⟩ := hT
  obtain ⟨a', f', s, nu, we, ru, e1⟩ := p_find (fl := fl) (TX := tx) (at' := ra) (fy := rf) (o1 := o1) (o2 := o2) (o3 := o3) (o4 := o4) hf hM hc
  obtain ⟨p1, p2, p3, p4, od', t', -, g2, -⟩ := r_order (fl := fl) (TX := tx) (told := told) (od := ord) (q := 0) (o1 := 0) (o2 := 0) (o3 := 0) (o4 := 0) hf hM (Nat.zero_le M) hc
  obtain ⟨od2, t2, e2⟩ := q_faultL (fl := fl) (TX := tx) (un := un) (ft := -1) (rs := rs) (dt := dt) (ix := ix) (an := an) (T := 0) (now := a) (tr := cpy a tr 0 0 77) (kp := kp) hf hM hc 61 0 fl ord told (by omega) (Nat.zero_le M) (by omega) _ _ _ _ g2
  have hT2 : LL z hid ks ws ts cn ct' ch (cpy a tr 0 0 77) := LL_a hL (fun i hi => by
    have e := cpy_in (f := a) (g := tr) (o := 0) (d := 0) hi
    rw [Nat.zero_add] at e; exact e)
  have e8 : F_X8_commands fl un (nI M) at8 ord ft rs dt ix an T a tr kp tx told = F_X8_commands_19 fl tx fl un (nI M) (nI (oQ M tx 0)) od' (-1) rs dt ix an 0 a (cpy a tr 0 0 77) kp t' (if oB M tx 0 = true then 1 else 0) := by
    unfold F_X8_commands
    rw [q_tries hf, bn2_e, show (0 : Int32) = nI 0 from rfl, g2, bn4_e]
    rfl
  rw [e8, e2]
  unfold F_X7_commands F_X5_clear
  rw [e1, bn7_e]
  cases hp : ps M tx 61 0 with
  | some x =>
    have hx : x < 2 ^ 31 := by have := ps_le 61 0 x (Nat.zero_le M) hp; omega
    show ∃ kk r lf2 z2 hid2 ks2 ws2 ts2 cn2 ct2 ch2 de2 rs2 dt2 ix2 s1 s2 s3 s4 ra2 rf2 nw2 am2 rk2 rw2 rt2 rz2 rh2 rn2 ro2 rd2 c1 c2 c3 c4 c5 c6 c7 c8 b un2 at2 od2 an2 th2 a2 tr2 kp2 told2, (if nI x = -1 then _ else _) = _ ∧ some (0, un, 0, nI x, _, nI x, rs, dt, ix, an, 1, a, cpy a tr 0 0 77, kp, _) = _ ∧ _
    rw [if_neg (nI_nm1 hx), bn_e]
    exact ⟨_, _, _, _, _, _, _, _, _, _, _, _, _, _, _, _, _, _, _, _, _, _, _, _, _, _, _, _, _, _, _, _, _, _, _, _, _, _, _, _, _, _, _, _, _, _, _, _, _, rfl, rfl, Or.inr (Or.inl ⟨rfl, rfl, rfl⟩), hL, hH⟩
  | none =>
    show ∃ kk r lf2 z2 hid2 ks2 ws2 ts2 cn2 ct2 ch2 de2 rs2 dt2 ix2 s1 s2 s3 s4 ra2 rf2 nw2 am2 rk2 rw2 rt2 rz2 rh2 rn2 ro2 rd2 c1 c2 c3 c4 c5 c6 c7 c8 b un2 at2 od2 an2 th2 a2 tr2 kp2 told2, (if (-1 : Int32) = -1 then _ else _) = _ ∧ F_X8_commands_91 fl tx fl un (nI M) (nI 0) _ (-1) rs dt ix an 0 a (cpy a tr 0 0 77) kp _ 1 (nI 0) 1 = _ ∧ _
    obtain ⟨kB, wB, tB, eB, hB⟩ := p_copy (fl := fl) hL (s1 := b1) (s2 := b2) (s3 := b3) (s4 := b4) (s5 := b5) (s6 := b6) (s7 := b7) (s8 := b8)
    have hBT : LL z hid kB wB tB cn ct' ch (cpy a tr 0 0 77) := LL_a hB (fun i hi => by
      have e := cpy_in (f := a) (g := tr) (o := 0) (d := 0) hi
      rw [Nat.zero_add] at e; exact e)
    obtain ⟨n, rfl, hl, hMR⟩ := hL
    rw [if_pos rfl, eB, bn8_e]
    unfold F_X7_carryOutText F_X5_rewind
    rw [bn2_e]
    rcases r_secondL (fl := fl) (TX := tx) (tr := cpy a tr 0 0 77) (kp := kp) (un := un) (ft := -1) (T := 0) hf hM hc 61 0 0 fl fl n hid ks ws ts cn ct' ch a de rs dt ix s nu we ru od2 an t2 hl hMR hp (by omega) (Nat.zero_le M) (by omega) (by omega) (by omega) with ⟨z2, hid2, ks2, ws2, ts2, cn2, ct2, ch2, de2, r, d, ki, s1, s2, s3, s4, at2, fy2, at9, od8, an8, a8, told8, x1, x2, x3⟩ | ⟨K, z2, hid2, ks2, ws2, ts2, cn2, ct2, ch2, de2, s1, s2, s3, s4, at2, fy2, at9, od8, an8, a8, told8, hK, x1, x2, x3⟩
    · have x1' : F_X7_carryOutText_11 fl (nI M) tx fl (nI n) hid ks ws ts cn ct' ch de rs dt ix s nu we ru 0 0 0 1 = _ := x1
      obtain ⟨kC, wC, tC, eC, hC⟩ := p_copy (fl := fl) hBT (s1 := z2) (s2 := hid2) (s3 := ks2) (s4 := ws2) (s5 := ts2) (s6 := cn2) (s7 := ct2) (s8 := ch2)
      rw [x1', bn19_e, bn_e, if_pos rfl, eC, bn8_e, x2]
      exact ⟨_, _, _, _, _, _, _, _, _, _, _, _, _, _, _, _, _, _, _, _, _, _, _, _, _, _, _, _, _, _, _, _, _, _, _, _, _, _, _, _, _, _, _, _, _, _, _, _, _, rfl, rfl, Or.inr (Or.inr ⟨rfl, rfl, rfl⟩), LL_a hC x3, hH⟩
    · have x1' : F_X7_carryOutText_11 fl (nI M) tx fl (nI n) hid ks ws ts cn ct' ch de rs dt ix s nu we ru 0 0 0 1 = _ := x1
      obtain ⟨nw2, am2, rk2, rw2, rt2, rs2, rh2, rn2, ro2, rd2, un2, kp2, y1, y2, y3⟩ := r_keep (fl := fl) hf hBT hH (v := nI K)
      rw [x1', bn19_e, bn_e, if_neg (nI_nm1 (by omega)), y1, bn10_e, x2, y2, bn3_e]
      exact ⟨_, _, _, _, _, _, _, _, _, _, _, _, _, _, _, _, _, _, _, _, _, _, _, _, _, _, _, _, _, _, _, _, _, _, _, _, _, _, _, _, _, _, _, _, _, _, _, _, _, rfl, rfl, Or.inl ⟨rfl, rfl, rfl⟩, x3, y3⟩
