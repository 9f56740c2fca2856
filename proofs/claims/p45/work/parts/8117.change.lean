/-! the nine changes -/
variable {fl n : Nat} {ks ws ts a : Nat → Int32} {key lev hid cn ct' ch z : Int32} {k w we ru rs dt ix an sg no : Int32}
variable {nw am un : Int32} {rk rw' rt : Nat → Nat → Int32} {rz rh rn ro rd kp : Nat → Int32}
/-- one kind of exception, or both answer the same -/
def OU1 (c k : Nat) (r b th : Int32) : Prop := (k = 0 ∧ th = 0 ∧ b = r) ∨ (k = c ∧ th = 1 ∧ r = 0)
def OU2 (c c2 k : Nat) (r b th : Int32) : Prop := (k = 0 ∧ th = 0 ∧ b = r) ∨ (k = c ∧ th = 1 ∧ r = 0) ∨ (k = c2 ∧ th = 2 ∧ r = 0)
def OU3 (c c2 c3 k : Nat) (r b th : Int32) : Prop := (k = 0 ∧ th = 0 ∧ b = r) ∨ (k = c ∧ th = 1 ∧ r = 0) ∨ (k = c2 ∧ th = 2 ∧ r = 0) ∨ (k = c3 ∧ th = 3 ∧ r = 0)
theorem r_change (hf : 2000 ≤ fl) (hl : LI n ks ts hid) (hM : MR n ks ws ts cn ct' ch hid a) (hH : HR nw am rk rw' rt rz rh rn ro rd un kp) {Q : Option (Int32 × Int32 × Int32 × Int32 × Int32 × (Nat → Int32))} {de th : Int32} {tr : Nat → Int32}
    (hC : CM fl n hid ks ws ts cn ct' ch sg no we ru rs dt ix an a Q) :
    ∃ kk r z2 hid2 ks2 ws2 ts2 cn2 ct2 ch2 de2 rs2 dt2 ix2 nw2 am2 rk2 rw2 rt2 rz2 rh2 rn2 ro2 rd2 b un2 an2 th2 a2 tr2 kp2,
      F_X7_change fl (nI n) hid ks ws ts cn ct' ch de rs dt ix sg no we ru nw am rk rw' rt rz rh rn ro rd = some (kk, r, z2, hid2, ks2, ws2, ts2, cn2, ct2, ch2, de2, rs2, dt2, ix2, nw2, am2, rk2, rw2, rt2, rz2, rh2, rn2, ro2, rd2) ∧
      (bn2 (F_X8_tries fl th a tr) fun th1 tr1 => bn6 Q fun r10 rs10 dt10 ix10 an10 a10 => bn4 (F_X8_ends fl un an10 th1 tr1 kp r10) fun r13 un13 th13 kp13 => some (r13, un13, rs10, dt10, ix10, an10, th13, a10, tr1, kp13)) = some (b, un2, rs2, dt2, ix2, an2, th2, a2, tr2, kp2) ∧
      OU1 4 kk r b th2 ∧ LL z2 hid2 ks2 ws2 ts2 cn2 ct2 ch2 a2 ∧ HR nw2 am2 rk2 rw2 rt2 rz2 rh2 rn2 ro2 rd2 un2 kp2 := by
  have hL : LL (nI n) hid ks ws ts cn ct' ch a := ⟨n, rfl, hl, hM⟩
  have hT : LL (nI n) hid ks ws ts cn ct' ch (cpy a tr 0 0 77) := LL_a hL (fun i hi => by
    have e := cpy_in (f := a) (g := tr) (o := 0) (d := 0) hi
    rw [Nat.zero_add] at e; exact e)
  rcases hC with ⟨r, d, h0, h1, h2⟩ | ⟨d, v, z', hid', ks', ws', ts', cn', ct'', ch', a', h1, h2, h3, h4⟩
  · refine ⟨4, 0, nI n, hid, ks, ws, ts, cn, ct', ch, d, r, d, 0, nw, am, rk, rw', rt, rz, rh, rn, ro, rd, 0, un, an, 1, a, cpy a tr 0 0 77, kp, ?_, ?_, Or.inr ⟨rfl, rfl, rfl⟩, hL, hH⟩
    · unfold F_X7_change F_X0_refuses
      rw [h1, bn2_e, if_neg h0, bn5_e, if_neg (by decide)]
    · unfold F_X8_ends F_X8_raises
      rw [q_tries hf, h2, bn2_e, bn6_e, if_pos rfl]; rfl
  · obtain ⟨nw2, am2, rk2, rw2, rt2, rs2, rh2, rn2, ro2, rd2, un2, kp2, e1, e2, e3⟩ := r_keep (fl := fl) hf hT hH (v := v)
    refine ⟨0, v, z', hid', ks', ws', ts', cn', ct'', ch', d, rs, dt, ix, nw2, am2, rk2, rw2, rt2, rs2, rh2, rn2, ro2, rd2, v, un2, v, 0, a', cpy a tr 0 0 77, kp2, ?_, ?_, Or.inl ⟨rfl, rfl, rfl⟩, h4, e3⟩
    · unfold F_X7_change F_X0_refuses
      rw [h1, bn2_e, if_pos rfl, bn5_e, if_pos rfl, e1, bn10_e, h2, bn9_e]
    · unfold F_X8_ends
      rw [q_tries hf, h3, bn2_e, bn6_e, if_neg (by decide), e2, bn3_e, bn4_e]
theorem m_file (hf : 2000 ≤ fl) (hL : LL z hid ks ws ts cn ct' ch a) (hH : HR nw am rk rw' rt rz rh rn ro rd un kp) {de th o1 o2 o3 o4 p1 p2 p3 : Int32} {tr : Nat → Int32} :
    ∃ kk r z2 hid2 ks2 ws2 ts2 cn2 ct2 ch2 de2 rs2 dt2 ix2 s1 s2 s3 s4 nw2 am2 rk2 rw2 rt2 rz2 rh2 rn2 ro2 rd2 b un2 an2 th2 a2 tr2 kp2,
      F_X7_file fl z hid ks ws ts cn ct' ch de rs dt ix o1 o2 o3 o4 nw am rk rw' rt rz rh rn ro rd p1 p2 = some (kk, r, z2, hid2, ks2, ws2, ts2, cn2, ct2, ch2, de2, rs2, dt2, ix2, s1, s2, s3, s4, nw2, am2, rk2, rw2, rt2, rz2, rh2, rn2, ro2, rd2) ∧
      F_X8_file fl un rs dt ix an th a tr kp p1 p2 = some (b, un2, rs2, dt2, ix2, an2, th2, a2, tr2, kp2) ∧
      OU1 4 kk r b th2 ∧ LL z2 hid2 ks2 ws2 ts2 cn2 ct2 ch2 a2 ∧ HR nw2 am2 rk2 rw2 rt2 rz2 rh2 rn2 ro2 rd2 un2 kp2 := by
  obtain ⟨n, rfl, hl, hM⟩ := hL
  obtain ⟨kk, r, z2, hid2, ks2, ws2, ts2, cn2, ct2, ch2, de2, rs2, dt2, ix2, nw2, am2, rk2, rw2, rt2, rz2, rh2, rn2, ro2, rd2, b, un2, an2, th2, a2, tr2, kp2, e1, e2, e3, e4, e5⟩ := r_change (de := de) (th := th) (tr := tr) hf hl hM hH (r_file (x3 := 0) hf hl hM : CM fl n hid ks ws ts cn ct' ch 43 p1 p2 1 rs dt ix an a _)
  refine ⟨kk, r, z2, hid2, ks2, ws2, ts2, cn2, ct2, ch2, de2, rs2, dt2, ix2, 43, p1, p2, 1, nw2, am2, rk2, rw2, rt2, rz2, rh2, rn2, ro2, rd2, b, un2, an2, th2, a2, tr2, kp2, ?_, e2, e3, e4, e5⟩
  unfold F_X7_file F_X4_tell
  rw [gd_e (by decide), bn4_e, e1, bn24_e]
  rcases e3 with ⟨rfl, -, -⟩ | ⟨rfl, -, rfl⟩
  · rw [if_pos rfl]
  · rw [if_neg (by decide)]
theorem m_fileTall (hf : 2000 ≤ fl) (hL : LL z hid ks ws ts cn ct' ch a) (hH : HR nw am rk rw' rt rz rh rn ro rd un kp) {de th o1 o2 o3 o4 p1 p2 p3 : Int32} {tr : Nat → Int32} :
    ∃ kk r z2 hid2 ks2 ws2 ts2 cn2 ct2 ch2 de2 rs2 dt2 ix2 s1 s2 s3 s4 nw2 am2 rk2 rw2 rt2 rz2 rh2 rn2 ro2 rd2 b un2 an2 th2 a2 tr2 kp2,
      F_X7_fileTall fl z hid ks ws ts cn ct' ch de rs dt ix o1 o2 o3 o4 nw am rk rw' rt rz rh rn ro rd p1 p2 p3 = some (kk, r, z2, hid2, ks2, ws2, ts2, cn2, ct2, ch2, de2, rs2, dt2, ix2, s1, s2, s3, s4, nw2, am2, rk2, rw2, rt2, rz2, rh2, rn2, ro2, rd2) ∧
      F_X8_fileTall fl un rs dt ix an th a tr kp p1 p2 p3 = some (b, un2, rs2, dt2, ix2, an2, th2, a2, tr2, kp2) ∧
      OU1 4 kk r b th2 ∧ LL z2 hid2 ks2 ws2 ts2 cn2 ct2 ch2 a2 ∧ HR nw2 am2 rk2 rw2 rt2 rz2 rh2 rn2 ro2 rd2 un2 kp2 := by
  obtain ⟨n, rfl, hl, hM⟩ := hL
  obtain ⟨kk, r, z2, hid2, ks2, ws2, ts2, cn2, ct2, ch2, de2, rs2, dt2, ix2, nw2, am2, rk2, rw2, rt2, rz2, rh2, rn2, ro2, rd2, b, un2, an2, th2, a2, tr2, kp2, e1, e2, e3, e4, e5⟩ := r_change (de := de) (th := th) (tr := tr) hf hl hM hH (r_fileTall hf hl hM : CM fl n hid ks ws ts cn ct' ch 94 p1 p2 p3 rs dt ix an a _)
  refine ⟨kk, r, z2, hid2, ks2, ws2, ts2, cn2, ct2, ch2, de2, rs2, dt2, ix2, 94, p1, p2, p3, nw2, am2, rk2, rw2, rt2, rz2, rh2, rn2, ro2, rd2, b, un2, an2, th2, a2, tr2, kp2, ?_, e2, e3, e4, e5⟩
  unfold F_X7_fileTall F_X4_tell
  rw [gd_e (by decide), bn4_e, e1, bn24_e]
  rcases e3 with ⟨rfl, -, -⟩ | ⟨rfl, -, rfl⟩
  · rw [if_pos rfl]
  · rw [if_neg (by decide)]
theorem m_drop (hf : 2000 ≤ fl) (hL : LL z hid ks ws ts cn ct' ch a) (hH : HR nw am rk rw' rt rz rh rn ro rd un kp) {de th o1 o2 o3 o4 p1 p2 p3 : Int32} {tr : Nat → Int32} :
    ∃ kk r z2 hid2 ks2 ws2 ts2 cn2 ct2 ch2 de2 rs2 dt2 ix2 s1 s2 s3 s4 nw2 am2 rk2 rw2 rt2 rz2 rh2 rn2 ro2 rd2 b un2 an2 th2 a2 tr2 kp2,
      F_X7_drop fl z hid ks ws ts cn ct' ch de rs dt ix o1 o2 o3 o4 nw am rk rw' rt rz rh rn ro rd p1 = some (kk, r, z2, hid2, ks2, ws2, ts2, cn2, ct2, ch2, de2, rs2, dt2, ix2, s1, s2, s3, s4, nw2, am2, rk2, rw2, rt2, rz2, rh2, rn2, ro2, rd2) ∧
      F_X8_drop fl un rs dt ix an th a tr kp p1 = some (b, un2, rs2, dt2, ix2, an2, th2, a2, tr2, kp2) ∧
      OU1 4 kk r b th2 ∧ LL z2 hid2 ks2 ws2 ts2 cn2 ct2 ch2 a2 ∧ HR nw2 am2 rk2 rw2 rt2 rz2 rh2 rn2 ro2 rd2 un2 kp2 := by
  obtain ⟨n, rfl, hl, hM⟩ := hL
  obtain ⟨kk, r, z2, hid2, ks2, ws2, ts2, cn2, ct2, ch2, de2, rs2, dt2, ix2, nw2, am2, rk2, rw2, rt2, rz2, rh2, rn2, ro2, rd2, b, un2, an2, th2, a2, tr2, kp2, e1, e2, e3, e4, e5⟩ := r_change (de := de) (th := th) (tr := tr) hf hl hM hH (r_drop hf hl hM (show inR 0 99 0 = true by decide) : CM fl n hid ks ws ts cn ct' ch 45 p1 0 1 rs dt ix an a _)
  refine ⟨kk, r, z2, hid2, ks2, ws2, ts2, cn2, ct2, ch2, de2, rs2, dt2, ix2, 45, p1, 0, 1, nw2, am2, rk2, rw2, rt2, rz2, rh2, rn2, ro2, rd2, b, un2, an2, th2, a2, tr2, kp2, ?_, e2, e3, e4, e5⟩
  unfold F_X7_drop F_X4_tell
  rw [gd_e (by decide), bn4_e, e1, bn24_e]
  rcases e3 with ⟨rfl, -, -⟩ | ⟨rfl, -, rfl⟩
  · rw [if_pos rfl]
  · rw [if_neg (by decide)]
theorem m_raise (hf : 2000 ≤ fl) (hL : LL z hid ks ws ts cn ct' ch a) (hH : HR nw am rk rw' rt rz rh rn ro rd un kp) {de th o1 o2 o3 o4 p1 p2 p3 : Int32} {tr : Nat → Int32} :
    ∃ kk r z2 hid2 ks2 ws2 ts2 cn2 ct2 ch2 de2 rs2 dt2 ix2 s1 s2 s3 s4 nw2 am2 rk2 rw2 rt2 rz2 rh2 rn2 ro2 rd2 b un2 an2 th2 a2 tr2 kp2,
      F_X7_raise fl z hid ks ws ts cn ct' ch de rs dt ix o1 o2 o3 o4 nw am rk rw' rt rz rh rn ro rd p1 = some (kk, r, z2, hid2, ks2, ws2, ts2, cn2, ct2, ch2, de2, rs2, dt2, ix2, s1, s2, s3, s4, nw2, am2, rk2, rw2, rt2, rz2, rh2, rn2, ro2, rd2) ∧
      F_X8_raise fl un rs dt ix an th a tr kp p1 = some (b, un2, rs2, dt2, ix2, an2, th2, a2, tr2, kp2) ∧
      OU1 4 kk r b th2 ∧ LL z2 hid2 ks2 ws2 ts2 cn2 ct2 ch2 a2 ∧ HR nw2 am2 rk2 rw2 rt2 rz2 rh2 rn2 ro2 rd2 un2 kp2 := by
  obtain ⟨n, rfl, hl, hM⟩ := hL
  obtain ⟨kk, r, z2, hid2, ks2, ws2, ts2, cn2, ct2, ch2, de2, rs2, dt2, ix2, nw2, am2, rk2, rw2, rt2, rz2, rh2, rn2, ro2, rd2, b, un2, an2, th2, a2, tr2, kp2, e1, e2, e3, e4, e5⟩ := r_change (de := de) (th := th) (tr := tr) hf hl hM hH (r_raise hf hl hM (show inR 0 99 0 = true by decide) : CM fl n hid ks ws ts cn ct' ch 117 p1 0 1 rs dt ix an a _)
  refine ⟨kk, r, z2, hid2, ks2, ws2, ts2, cn2, ct2, ch2, de2, rs2, dt2, ix2, 117, p1, 0, 1, nw2, am2, rk2, rw2, rt2, rz2, rh2, rn2, ro2, rd2, b, un2, an2, th2, a2, tr2, kp2, ?_, e2, e3, e4, e5⟩
  unfold F_X7_raise F_X4_tell
  rw [gd_e (by decide), bn4_e, e1, bn24_e]
  rcases e3 with ⟨rfl, -, -⟩ | ⟨rfl, -, rfl⟩
  · rw [if_pos rfl]
  · rw [if_neg (by decide)]
theorem m_lower (hf : 2000 ≤ fl) (hL : LL z hid ks ws ts cn ct' ch a) (hH : HR nw am rk rw' rt rz rh rn ro rd un kp) {de th o1 o2 o3 o4 p1 p2 p3 : Int32} {tr : Nat → Int32} :
    ∃ kk r z2 hid2 ks2 ws2 ts2 cn2 ct2 ch2 de2 rs2 dt2 ix2 s1 s2 s3 s4 nw2 am2 rk2 rw2 rt2 rz2 rh2 rn2 ro2 rd2 b un2 an2 th2 a2 tr2 kp2,
      F_X7_lower fl z hid ks ws ts cn ct' ch de rs dt ix o1 o2 o3 o4 nw am rk rw' rt rz rh rn ro rd p1 = some (kk, r, z2, hid2, ks2, ws2, ts2, cn2, ct2, ch2, de2, rs2, dt2, ix2, s1, s2, s3, s4, nw2, am2, rk2, rw2, rt2, rz2, rh2, rn2, ro2, rd2) ∧
      F_X8_lower_ fl un rs dt ix an th a tr kp p1 = some (b, un2, rs2, dt2, ix2, an2, th2, a2, tr2, kp2) ∧
      OU1 4 kk r b th2 ∧ LL z2 hid2 ks2 ws2 ts2 cn2 ct2 ch2 a2 ∧ HR nw2 am2 rk2 rw2 rt2 rz2 rh2 rn2 ro2 rd2 un2 kp2 := by
  obtain ⟨n, rfl, hl, hM⟩ := hL
  obtain ⟨kk, r, z2, hid2, ks2, ws2, ts2, cn2, ct2, ch2, de2, rs2, dt2, ix2, nw2, am2, rk2, rw2, rt2, rz2, rh2, rn2, ro2, rd2, b, un2, an2, th2, a2, tr2, kp2, e1, e2, e3, e4, e5⟩ := r_change (de := de) (th := th) (tr := tr) hf hl hM hH (r_lower hf hl hM (show inR 0 99 0 = true by decide) : CM fl n hid ks ws ts cn ct' ch 100 p1 0 1 rs dt ix an a _)
  refine ⟨kk, r, z2, hid2, ks2, ws2, ts2, cn2, ct2, ch2, de2, rs2, dt2, ix2, 100, p1, 0, 1, nw2, am2, rk2, rw2, rt2, rz2, rh2, rn2, ro2, rd2, b, un2, an2, th2, a2, tr2, kp2, ?_, e2, e3, e4, e5⟩
  unfold F_X7_lower F_X4_tell
  rw [gd_e (by decide), bn4_e, e1, bn24_e]
  rcases e3 with ⟨rfl, -, -⟩ | ⟨rfl, -, rfl⟩
  · rw [if_pos rfl]
  · rw [if_neg (by decide)]
theorem m_forget (hf : 2000 ≤ fl) (hL : LL z hid ks ws ts cn ct' ch a) (hH : HR nw am rk rw' rt rz rh rn ro rd un kp) {de th o1 o2 o3 o4 p1 p2 p3 : Int32} {tr : Nat → Int32} :
    ∃ kk r z2 hid2 ks2 ws2 ts2 cn2 ct2 ch2 de2 rs2 dt2 ix2 s1 s2 s3 s4 nw2 am2 rk2 rw2 rt2 rz2 rh2 rn2 ro2 rd2 b un2 an2 th2 a2 tr2 kp2,
      F_X7_forget fl z hid ks ws ts cn ct' ch de rs dt ix o1 o2 o3 o4 nw am rk rw' rt rz rh rn ro rd p1 = some (kk, r, z2, hid2, ks2, ws2, ts2, cn2, ct2, ch2, de2, rs2, dt2, ix2, s1, s2, s3, s4, nw2, am2, rk2, rw2, rt2, rz2, rh2, rn2, ro2, rd2) ∧
      F_X8_forget fl un rs dt ix an th a tr kp p1 = some (b, un2, rs2, dt2, ix2, an2, th2, a2, tr2, kp2) ∧
      OU1 4 kk r b th2 ∧ LL z2 hid2 ks2 ws2 ts2 cn2 ct2 ch2 a2 ∧ HR nw2 am2 rk2 rw2 rt2 rz2 rh2 rn2 ro2 rd2 un2 kp2 := by
  obtain ⟨n, rfl, hl, hM⟩ := hL
  obtain ⟨kk, r, z2, hid2, ks2, ws2, ts2, cn2, ct2, ch2, de2, rs2, dt2, ix2, nw2, am2, rk2, rw2, rt2, rz2, rh2, rn2, ro2, rd2, b, un2, an2, th2, a2, tr2, kp2, e1, e2, e3, e4, e5⟩ := r_change (de := de) (th := th) (tr := tr) hf hl hM hH (r_forget hf hl hM : CM fl n hid ks ws ts cn ct' ch 102 p1 0 1 rs dt ix an a _)
  refine ⟨kk, r, z2, hid2, ks2, ws2, ts2, cn2, ct2, ch2, de2, rs2, dt2, ix2, 102, p1, 0, 1, nw2, am2, rk2, rw2, rt2, rz2, rh2, rn2, ro2, rd2, b, un2, an2, th2, a2, tr2, kp2, ?_, e2, e3, e4, e5⟩
  unfold F_X7_forget F_X4_tell
  rw [gd_e (by decide), bn4_e, e1, bn24_e]
  rcases e3 with ⟨rfl, -, -⟩ | ⟨rfl, -, rfl⟩
  · rw [if_pos rfl]
  · rw [if_neg (by decide)]
theorem m_recall (hf : 2000 ≤ fl) (hL : LL z hid ks ws ts cn ct' ch a) (hH : HR nw am rk rw' rt rz rh rn ro rd un kp) {de th o1 o2 o3 o4 p1 p2 p3 : Int32} {tr : Nat → Int32} :
    ∃ kk r z2 hid2 ks2 ws2 ts2 cn2 ct2 ch2 de2 rs2 dt2 ix2 s1 s2 s3 s4 nw2 am2 rk2 rw2 rt2 rz2 rh2 rn2 ro2 rd2 b un2 an2 th2 a2 tr2 kp2,
      F_X7_recall fl z hid ks ws ts cn ct' ch de rs dt ix o1 o2 o3 o4 nw am rk rw' rt rz rh rn ro rd p1 = some (kk, r, z2, hid2, ks2, ws2, ts2, cn2, ct2, ch2, de2, rs2, dt2, ix2, s1, s2, s3, s4, nw2, am2, rk2, rw2, rt2, rz2, rh2, rn2, ro2, rd2) ∧
      F_X8_recall fl un rs dt ix an th a tr kp p1 = some (b, un2, rs2, dt2, ix2, an2, th2, a2, tr2, kp2) ∧
      OU1 4 kk r b th2 ∧ LL z2 hid2 ks2 ws2 ts2 cn2 ct2 ch2 a2 ∧ HR nw2 am2 rk2 rw2 rt2 rz2 rh2 rn2 ro2 rd2 un2 kp2 := by
  obtain ⟨n, rfl, hl, hM⟩ := hL
  obtain ⟨kk, r, z2, hid2, ks2, ws2, ts2, cn2, ct2, ch2, de2, rs2, dt2, ix2, nw2, am2, rk2, rw2, rt2, rz2, rh2, rn2, ro2, rd2, b, un2, an2, th2, a2, tr2, kp2, e1, e2, e3, e4, e5⟩ := r_change (de := de) (th := th) (tr := tr) hf hl hM hH (r_recall hf hl hM : CM fl n hid ks ws ts cn ct' ch 114 p1 0 1 rs dt ix an a _)
  refine ⟨kk, r, z2, hid2, ks2, ws2, ts2, cn2, ct2, ch2, de2, rs2, dt2, ix2, 114, p1, 0, 1, nw2, am2, rk2, rw2, rt2, rz2, rh2, rn2, ro2, rd2, b, un2, an2, th2, a2, tr2, kp2, ?_, e2, e3, e4, e5⟩
  unfold F_X7_recall F_X4_tell
  rw [gd_e (by decide), bn4_e, e1, bn24_e]
  rcases e3 with ⟨rfl, -, -⟩ | ⟨rfl, -, rfl⟩
  · rw [if_pos rfl]
  · rw [if_neg (by decide)]
theorem m_weigh (hf : 2000 ≤ fl) (hL : LL z hid ks ws ts cn ct' ch a) (hH : HR nw am rk rw' rt rz rh rn ro rd un kp) {de th o1 o2 o3 o4 p1 p2 p3 : Int32} {tr : Nat → Int32} :
    ∃ kk r z2 hid2 ks2 ws2 ts2 cn2 ct2 ch2 de2 rs2 dt2 ix2 s1 s2 s3 s4 nw2 am2 rk2 rw2 rt2 rz2 rh2 rn2 ro2 rd2 b un2 an2 th2 a2 tr2 kp2,
      F_X7_weigh fl z hid ks ws ts cn ct' ch de rs dt ix o1 o2 o3 o4 nw am rk rw' rt rz rh rn ro rd p1 p2 = some (kk, r, z2, hid2, ks2, ws2, ts2, cn2, ct2, ch2, de2, rs2, dt2, ix2, s1, s2, s3, s4, nw2, am2, rk2, rw2, rt2, rz2, rh2, rn2, ro2, rd2) ∧
      F_X8_weigh fl un rs dt ix an th a tr kp p1 p2 = some (b, un2, rs2, dt2, ix2, an2, th2, a2, tr2, kp2) ∧
      OU1 4 kk r b th2 ∧ LL z2 hid2 ks2 ws2 ts2 cn2 ct2 ch2 a2 ∧ HR nw2 am2 rk2 rw2 rt2 rz2 rh2 rn2 ro2 rd2 un2 kp2 := by
  obtain ⟨n, rfl, hl, hM⟩ := hL
  obtain ⟨kk, r, z2, hid2, ks2, ws2, ts2, cn2, ct2, ch2, de2, rs2, dt2, ix2, nw2, am2, rk2, rw2, rt2, rz2, rh2, rn2, ro2, rd2, b, un2, an2, th2, a2, tr2, kp2, e1, e2, e3, e4, e5⟩ := r_change (de := de) (th := th) (tr := tr) hf hl hM hH (r_weigh hf hl hM : CM fl n hid ks ws ts cn ct' ch 119 p1 p2 1 rs dt ix an a _)
  refine ⟨kk, r, z2, hid2, ks2, ws2, ts2, cn2, ct2, ch2, de2, rs2, dt2, ix2, 119, p1, p2, 1, nw2, am2, rk2, rw2, rt2, rz2, rh2, rn2, ro2, rd2, b, un2, an2, th2, a2, tr2, kp2, ?_, e2, e3, e4, e5⟩
  unfold F_X7_weigh F_X4_tell
  rw [gd_e (by decide), bn4_e, e1, bn24_e]
  rcases e3 with ⟨rfl, -, -⟩ | ⟨rfl, -, rfl⟩
  · rw [if_pos rfl]
  · rw [if_neg (by decide)]
theorem m_toss (hf : 2000 ≤ fl) (hL : LL z hid ks ws ts cn ct' ch a) (hH : HR nw am rk rw' rt rz rh rn ro rd un kp) {de th o1 o2 o3 o4 p1 p2 p3 : Int32} {tr : Nat → Int32} :
    ∃ kk r z2 hid2 ks2 ws2 ts2 cn2 ct2 ch2 de2 rs2 dt2 ix2 s1 s2 s3 s4 nw2 am2 rk2 rw2 rt2 rz2 rh2 rn2 ro2 rd2 b un2 th2 a2 tr2 kp2,
      F_X7_toss fl z hid ks ws ts cn ct' ch de rs dt ix o1 o2 o3 o4 nw am rk rw' rt rz rh rn ro rd  = some (kk, r, z2, hid2, ks2, ws2, ts2, cn2, ct2, ch2, de2, rs2, dt2, ix2, s1, s2, s3, s4, nw2, am2, rk2, rw2, rt2, rz2, rh2, rn2, ro2, rd2) ∧
      (F_X8_toss fl un th a tr kp = some (b, un2, th2, a2, tr2, kp2) ∧ rs2 = rs ∧ dt2 = dt ∧ ix2 = ix) ∧
      OU1 4 kk r b th2 ∧ LL z2 hid2 ks2 ws2 ts2 cn2 ct2 ch2 a2 ∧ HR nw2 am2 rk2 rw2 rt2 rz2 rh2 rn2 ro2 rd2 un2 kp2 := by
  obtain ⟨n, rfl, hl, hM⟩ := hL
  obtain ⟨t', g1, g2⟩ := q_tosses (fl := fl) hM
  obtain ⟨kk, r, z2, hid2, ks2, ws2, ts2, cn2, ct2, ch2, de2, rs2, dt2, ix2, nw2, am2, rk2, rw2, rt2, rz2, rh2, rn2, ro2, rd2, b, un2, an2, th2, a2, tr2, kp2, e1, e2, e3, e4, e5⟩ := r_change (de := de) (th := th) (tr := tr) (rs := rs) (dt := dt) (ix := ix) (an := 0) hf hl hM hH (r_tossC hf hl hM : CM fl n hid ks ws ts cn ct' ch 116 0 0 1 rs dt ix 0 a _)
  have ex : rs2 = rs ∧ dt2 = dt ∧ ix2 = ix ∧ F_X8_toss fl un th a tr kp = some (b, un2, th2, a2, tr2, kp2) := by
    unfold F_X8_toss
    unfold F_X8_ends at e2
    rw [q_tries hf, g1, bn2_e, bn2_e, bn6_e, if_neg (by decide)] at e2
    rw [q_tries hf, g1, bn2_e, bn2_e]
    by_cases c : hd (fw cn) = true
    · rw [if_pos c] at e2
      rw [if_pos c, if_neg (by decide)]
      cases hK : F_X8_keeps fl un (cpy a tr 0 0 77) kp 1 with
      | none => rw [hK] at e2; cases e2
      | some q =>
        obtain ⟨q1, q2, q3⟩ := q
        rw [hK, bn3_e, bn4_e] at e2
        rw [bn3_e]
        cases e2; exact ⟨rfl, rfl, rfl, rfl⟩
    · rw [if_neg c] at e2
      rw [if_neg c, if_pos rfl]
      cases hK : F_X8_keeps fl un (cpy a tr 0 0 77) kp 0 with
      | none => rw [hK] at e2; cases e2
      | some q =>
        obtain ⟨q1, q2, q3⟩ := q
        rw [hK, bn3_e, bn4_e] at e2
        rw [bn3_e]
        cases e2; exact ⟨rfl, rfl, rfl, rfl⟩
  obtain ⟨x1, x2, x3, x4⟩ := ex
  refine ⟨kk, r, z2, hid2, ks2, ws2, ts2, cn2, ct2, ch2, de2, rs2, dt2, ix2, 116, 0, 0, 1, nw2, am2, rk2, rw2, rt2, rz2, rh2, rn2, ro2, rd2, b, un2, th2, a2, tr2, kp2, ?_, ⟨x4, x1, x2, x3⟩, e3, e4, e5⟩
  unfold F_X7_toss F_X4_tell
  rw [gd_e (by decide), bn4_e, e1, bn24_e]
  rcases e3 with ⟨rfl, -, -⟩ | ⟨rfl, -, rfl⟩
  · rw [if_pos rfl]
  · rw [if_neg (by decide)]
