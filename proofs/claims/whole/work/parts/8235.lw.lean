/-! the law's methods beside the reference's: the same number told, the same answer -/
variable {fl n : Nat} {ks ws ts a tr tx told way : Nat → Int32} {key lev hid cn ct' ch z : Int32} {rs dt ix an un T de o1 o2 o3 o4 ra rf lf ord ft at8 ln th g f p1 p2 p3 x1 x2 x3 x4 x5 u le : Int32}
variable {nw am : Int32} {rk rw' rt : Nat → Nat → Int32} {rz rh rn' ro rd kp : Nat → Int32} {b1 b2 b6 b7 b8 : Int32} {b3 b4 b5 : Nat → Int32}
def LO (K : Int32) (o2 : Nat → Int64) (b th : Int32) : Prop := th = K ∧ (K = 0 → o2 0 = b.toInt64)
theorem lo0 {out : Nat → Int64} {x : Int64} : vp_updL out (0 : Int32).toNatClampNeg x 0 = x := if_pos rfl
theorem bx2_e {A1 A2 G : Type} {a1 : A1} {a2 : A2} {f : A1 → A2 → Option G} : bn2 (some (a1, a2)) f = f a1 a2 := rfl
theorem bx4_e {A1 A2 A3 A4 G : Type} {a1 : A1} {a2 : A2} {a3 : A3} {a4 : A4} {f : A1 → A2 → A3 → A4 → Option G} : bn4 (some (a1, a2, a3, a4)) f = f a1 a2 a3 a4 := rfl
theorem bx7_e {A1 A2 A3 A4 A5 A6 A7 G : Type} {a1 : A1} {a2 : A2} {a3 : A3} {a4 : A4} {a5 : A5} {a6 : A6} {a7 : A7} {f : A1 → A2 → A3 → A4 → A5 → A6 → A7 → Option G} : bn7 (some (a1, a2, a3, a4, a5, a6, a7)) f = f a1 a2 a3 a4 a5 a6 a7 := rfl
theorem bx11_e {A1 A2 A3 A4 A5 A6 A7 A8 A9 A10 A11 G : Type} {a1 : A1} {a2 : A2} {a3 : A3} {a4 : A4} {a5 : A5} {a6 : A6} {a7 : A7} {a8 : A8} {a9 : A9} {a10 : A10} {a11 : A11} {f : A1 → A2 → A3 → A4 → A5 → A6 → A7 → A8 → A9 → A10 → A11 → Option G} : bn11 (some (a1, a2, a3, a4, a5, a6, a7, a8, a9, a10, a11)) f = f a1 a2 a3 a4 a5 a6 a7 a8 a9 a10 a11 := rfl
theorem bx12_e {A1 A2 A3 A4 A5 A6 A7 A8 A9 A10 A11 A12 G : Type} {a1 : A1} {a2 : A2} {a3 : A3} {a4 : A4} {a5 : A5} {a6 : A6} {a7 : A7} {a8 : A8} {a9 : A9} {a10 : A10} {a11 : A11} {a12 : A12} {f : A1 → A2 → A3 → A4 → A5 → A6 → A7 → A8 → A9 → A10 → A11 → A12 → Option G} : bn12 (some (a1, a2, a3, a4, a5, a6, a7, a8, a9, a10, a11, a12)) f = f a1 a2 a3 a4 a5 a6 a7 a8 a9 a10 a11 a12 := rfl
theorem bx28_e {A1 A2 A3 A4 A5 A6 A7 A8 A9 A10 A11 A12 A13 A14 A15 A16 A17 A18 A19 A20 A21 A22 A23 A24 A25 A26 A27 A28 G : Type} {a1 : A1} {a2 : A2} {a3 : A3} {a4 : A4} {a5 : A5} {a6 : A6} {a7 : A7} {a8 : A8} {a9 : A9} {a10 : A10} {a11 : A11} {a12 : A12} {a13 : A13} {a14 : A14} {a15 : A15} {a16 : A16} {a17 : A17} {a18 : A18} {a19 : A19} {a20 : A20} {a21 : A21} {a22 : A22} {a23 : A23} {a24 : A24} {a25 : A25} {a26 : A26} {a27 : A27} {a28 : A28} {f : A1 → A2 → A3 → A4 → A5 → A6 → A7 → A8 → A9 → A10 → A11 → A12 → A13 → A14 → A15 → A16 → A17 → A18 → A19 → A20 → A21 → A22 → A23 → A24 → A25 → A26 → A27 → A28 → Option G} : bn28 (some (a1, a2, a3, a4, a5, a6, a7, a8, a9, a10, a11, a12, a13, a14, a15, a16, a17, a18, a19, a20, a21, a22, a23, a24, a25, a26, a27, a28)) f = f a1 a2 a3 a4 a5 a6 a7 a8 a9 a10 a11 a12 a13 a14 a15 a16 a17 a18 a19 a20 a21 a22 a23 a24 a25 a26 a27 a28 := rfl
theorem bx40_e {A1 A2 A3 A4 A5 A6 A7 A8 A9 A10 A11 A12 A13 A14 A15 A16 A17 A18 A19 A20 A21 A22 A23 A24 A25 A26 A27 A28 A29 A30 A31 A32 A33 A34 A35 A36 A37 A38 A39 A40 G : Type} {a1 : A1} {a2 : A2} {a3 : A3} {a4 : A4} {a5 : A5} {a6 : A6} {a7 : A7} {a8 : A8} {a9 : A9} {a10 : A10} {a11 : A11} {a12 : A12} {a13 : A13} {a14 : A14} {a15 : A15} {a16 : A16} {a17 : A17} {a18 : A18} {a19 : A19} {a20 : A20} {a21 : A21} {a22 : A22} {a23 : A23} {a24 : A24} {a25 : A25} {a26 : A26} {a27 : A27} {a28 : A28} {a29 : A29} {a30 : A30} {a31 : A31} {a32 : A32} {a33 : A33} {a34 : A34} {a35 : A35} {a36 : A36} {a37 : A37} {a38 : A38} {a39 : A39} {a40 : A40} {f : A1 → A2 → A3 → A4 → A5 → A6 → A7 → A8 → A9 → A10 → A11 → A12 → A13 → A14 → A15 → A16 → A17 → A18 → A19 → A20 → A21 → A22 → A23 → A24 → A25 → A26 → A27 → A28 → A29 → A30 → A31 → A32 → A33 → A34 → A35 → A36 → A37 → A38 → A39 → A40 → Option G} : bn40 (some (a1, a2, a3, a4, a5, a6, a7, a8, a9, a10, a11, a12, a13, a14, a15, a16, a17, a18, a19, a20, a21, a22, a23, a24, a25, a26, a27, a28, a29, a30, a31, a32, a33, a34, a35, a36, a37, a38, a39, a40)) f = f a1 a2 a3 a4 a5 a6 a7 a8 a9 a10 a11 a12 a13 a14 a15 a16 a17 a18 a19 a20 a21 a22 a23 a24 a25 a26 a27 a28 a29 a30 a31 a32 a33 a34 a35 a36 a37 a38 a39 a40 := rfl
theorem lw_file (hf : 2000 ≤ fl) (hL : LL z hid ks ws ts cn ct' ch a) (hH : HR nw am rk rw' rt rz rh rn' ro rd un kp) {de th o1 o2 o3 o4 p1 p2 : Int32} {tr : Nat → Int32} {out : Nat → Int64} : ∃ K z2 hid2 ks2 ws2 ts2 cn2 ct2 ch2 de2 rs2 dt2 ix2 s1 s2 s3 s4 nw2 am2 rk2 rw2 rt2 rz2 rh2 rn2 ro2 rd2 b un2 an2 th2 a2 tr2 kp2 out2, F_L_file fl z hid ks ws ts cn ct' ch de rs dt ix o1 o2 o3 o4 nw am rk rw' rt rz rh rn' ro rd out p1 p2 = some (K, z2, hid2, ks2, ws2, ts2, cn2, ct2, ch2, de2, rs2, dt2, ix2, s1, s2, s3, s4, nw2, am2, rk2, rw2, rt2, rz2, rh2, rn2, ro2, rd2, out2) ∧ F_X8_file fl un rs dt ix an th a tr kp p1 p2 = some (b, un2, rs2, dt2, ix2, an2, th2, a2, tr2, kp2) ∧ LO K out2 b th2 ∧ LL z2 hid2 ks2 ws2 ts2 cn2 ct2 ch2 a2 ∧ HR nw2 am2 rk2 rw2 rt2 rz2 rh2 rn2 ro2 rd2 un2 kp2 := by
  obtain ⟨kk, r, z2, hid2, ks2, ws2, ts2, cn2, ct2, ch2, de2, rs2, dt2, ix2, s1, s2, s3, s4, nw2, am2, rk2, rw2, rt2, rz2, rh2, rn2, ro2, rd2, b, un2, an2, th2, a2, tr2, kp2, g7, g8, hO, e0, e1⟩ := m_file (fl := fl) (z := z) (hid := hid) (ks := ks) (ws := ws) (ts := ts) (cn := cn) (ct' := ct') (ch := ch) (de := de) (rs := rs) (dt := dt) (ix := ix) (o1 := o1) (o2 := o2) (o3 := o3) (o4 := o4) (nw := nw) (am := am) (rk := rk) (rw' := rw') (rt := rt) (rz := rz) (rh := rh) (rn := rn') (ro := ro) (rd := rd) (un := un) (an := an) (th := th) (a := a) (tr := tr) (kp := kp) (p1 := p1) (p2 := p2) (p3 := 0) hf hL hH
  unfold F_L_file
  rw [g7, bx28_e]
  rcases hO with ⟨rfl, rfl, rfl⟩ | ⟨rfl, rfl, rfl⟩
  · rw [if_pos rfl]
    exact ⟨_, _, _, _, _, _, _, _, _, _, _, _, _, _, _, _, _, _, _, _, _, _, _, _, _, _, _, _, _, _, _, _, _, _, _, rfl, g8, ⟨rfl, fun _ => lo0⟩, e0, e1⟩
  · rw [if_neg (by decide), if_pos rfl]
    exact ⟨_, _, _, _, _, _, _, _, _, _, _, _, _, _, _, _, _, _, _, _, _, _, _, _, _, _, _, _, _, _, _, _, _, _, _, rfl, g8, ⟨rfl, fun h => absurd h (by decide)⟩, e0, e1⟩
theorem lw_fileTall (hf : 2000 ≤ fl) (hL : LL z hid ks ws ts cn ct' ch a) (hH : HR nw am rk rw' rt rz rh rn' ro rd un kp) {de th o1 o2 o3 o4 p1 p2 p3 : Int32} {tr : Nat → Int32} {out : Nat → Int64} : ∃ K z2 hid2 ks2 ws2 ts2 cn2 ct2 ch2 de2 rs2 dt2 ix2 s1 s2 s3 s4 nw2 am2 rk2 rw2 rt2 rz2 rh2 rn2 ro2 rd2 b un2 an2 th2 a2 tr2 kp2 out2, F_L_fileTall fl z hid ks ws ts cn ct' ch de rs dt ix o1 o2 o3 o4 nw am rk rw' rt rz rh rn' ro rd out p1 p2 p3 = some (K, z2, hid2, ks2, ws2, ts2, cn2, ct2, ch2, de2, rs2, dt2, ix2, s1, s2, s3, s4, nw2, am2, rk2, rw2, rt2, rz2, rh2, rn2, ro2, rd2, out2) ∧ F_X8_fileTall fl un rs dt ix an th a tr kp p1 p2 p3 = some (b, un2, rs2, dt2, ix2, an2, th2, a2, tr2, kp2) ∧ LO K out2 b th2 ∧ LL z2 hid2 ks2 ws2 ts2 cn2 ct2 ch2 a2 ∧ HR nw2 am2 rk2 rw2 rt2 rz2 rh2 rn2 ro2 rd2 un2 kp2 := by
  obtain ⟨kk, r, z2, hid2, ks2, ws2, ts2, cn2, ct2, ch2, de2, rs2, dt2, ix2, s1, s2, s3, s4, nw2, am2, rk2, rw2, rt2, rz2, rh2, rn2, ro2, rd2, b, un2, an2, th2, a2, tr2, kp2, g7, g8, hO, e0, e1⟩ := m_fileTall (fl := fl) (z := z) (hid := hid) (ks := ks) (ws := ws) (ts := ts) (cn := cn) (ct' := ct') (ch := ch) (de := de) (rs := rs) (dt := dt) (ix := ix) (o1 := o1) (o2 := o2) (o3 := o3) (o4 := o4) (nw := nw) (am := am) (rk := rk) (rw' := rw') (rt := rt) (rz := rz) (rh := rh) (rn := rn') (ro := ro) (rd := rd) (un := un) (an := an) (th := th) (a := a) (tr := tr) (kp := kp) (p1 := p1) (p2 := p2) (p3 := p3) hf hL hH
  unfold F_L_fileTall
  rw [g7, bx28_e]
  rcases hO with ⟨rfl, rfl, rfl⟩ | ⟨rfl, rfl, rfl⟩
  · rw [if_pos rfl]
    exact ⟨_, _, _, _, _, _, _, _, _, _, _, _, _, _, _, _, _, _, _, _, _, _, _, _, _, _, _, _, _, _, _, _, _, _, _, rfl, g8, ⟨rfl, fun _ => lo0⟩, e0, e1⟩
  · rw [if_neg (by decide), if_pos rfl]
    exact ⟨_, _, _, _, _, _, _, _, _, _, _, _, _, _, _, _, _, _, _, _, _, _, _, _, _, _, _, _, _, _, _, _, _, _, _, rfl, g8, ⟨rfl, fun h => absurd h (by decide)⟩, e0, e1⟩
theorem lw_drop (hf : 2000 ≤ fl) (hL : LL z hid ks ws ts cn ct' ch a) (hH : HR nw am rk rw' rt rz rh rn' ro rd un kp) {de th o1 o2 o3 o4 p1 : Int32} {tr : Nat → Int32} {out : Nat → Int64} : ∃ K z2 hid2 ks2 ws2 ts2 cn2 ct2 ch2 de2 rs2 dt2 ix2 s1 s2 s3 s4 nw2 am2 rk2 rw2 rt2 rz2 rh2 rn2 ro2 rd2 b un2 an2 th2 a2 tr2 kp2 out2, F_L_drop fl z hid ks ws ts cn ct' ch de rs dt ix o1 o2 o3 o4 nw am rk rw' rt rz rh rn' ro rd out p1 = some (K, z2, hid2, ks2, ws2, ts2, cn2, ct2, ch2, de2, rs2, dt2, ix2, s1, s2, s3, s4, nw2, am2, rk2, rw2, rt2, rz2, rh2, rn2, ro2, rd2, out2) ∧ F_X8_drop fl un rs dt ix an th a tr kp p1 = some (b, un2, rs2, dt2, ix2, an2, th2, a2, tr2, kp2) ∧ LO K out2 b th2 ∧ LL z2 hid2 ks2 ws2 ts2 cn2 ct2 ch2 a2 ∧ HR nw2 am2 rk2 rw2 rt2 rz2 rh2 rn2 ro2 rd2 un2 kp2 := by
  obtain ⟨kk, r, z2, hid2, ks2, ws2, ts2, cn2, ct2, ch2, de2, rs2, dt2, ix2, s1, s2, s3, s4, nw2, am2, rk2, rw2, rt2, rz2, rh2, rn2, ro2, rd2, b, un2, an2, th2, a2, tr2, kp2, g7, g8, hO, e0, e1⟩ := m_drop (fl := fl) (z := z) (hid := hid) (ks := ks) (ws := ws) (ts := ts) (cn := cn) (ct' := ct') (ch := ch) (de := de) (rs := rs) (dt := dt) (ix := ix) (o1 := o1) (o2 := o2) (o3 := o3) (o4 := o4) (nw := nw) (am := am) (rk := rk) (rw' := rw') (rt := rt) (rz := rz) (rh := rh) (rn := rn') (ro := ro) (rd := rd) (un := un) (an := an) (th := th) (a := a) (tr := tr) (kp := kp) (p1 := p1) (p2 := 0) (p3 := 0) hf hL hH
  unfold F_L_drop
  rw [g7, bx28_e]
  rcases hO with ⟨rfl, rfl, rfl⟩ | ⟨rfl, rfl, rfl⟩
  · rw [if_pos rfl]
    exact ⟨_, _, _, _, _, _, _, _, _, _, _, _, _, _, _, _, _, _, _, _, _, _, _, _, _, _, _, _, _, _, _, _, _, _, _, rfl, g8, ⟨rfl, fun _ => lo0⟩, e0, e1⟩
  · rw [if_neg (by decide), if_pos rfl]
    exact ⟨_, _, _, _, _, _, _, _, _, _, _, _, _, _, _, _, _, _, _, _, _, _, _, _, _, _, _, _, _, _, _, _, _, _, _, rfl, g8, ⟨rfl, fun h => absurd h (by decide)⟩, e0, e1⟩
theorem lw_raise (hf : 2000 ≤ fl) (hL : LL z hid ks ws ts cn ct' ch a) (hH : HR nw am rk rw' rt rz rh rn' ro rd un kp) {de th o1 o2 o3 o4 p1 : Int32} {tr : Nat → Int32} {out : Nat → Int64} : ∃ K z2 hid2 ks2 ws2 ts2 cn2 ct2 ch2 de2 rs2 dt2 ix2 s1 s2 s3 s4 nw2 am2 rk2 rw2 rt2 rz2 rh2 rn2 ro2 rd2 b un2 an2 th2 a2 tr2 kp2 out2, F_L_raise fl z hid ks ws ts cn ct' ch de rs dt ix o1 o2 o3 o4 nw am rk rw' rt rz rh rn' ro rd out p1 = some (K, z2, hid2, ks2, ws2, ts2, cn2, ct2, ch2, de2, rs2, dt2, ix2, s1, s2, s3, s4, nw2, am2, rk2, rw2, rt2, rz2, rh2, rn2, ro2, rd2, out2) ∧ F_X8_raise fl un rs dt ix an th a tr kp p1 = some (b, un2, rs2, dt2, ix2, an2, th2, a2, tr2, kp2) ∧ LO K out2 b th2 ∧ LL z2 hid2 ks2 ws2 ts2 cn2 ct2 ch2 a2 ∧ HR nw2 am2 rk2 rw2 rt2 rz2 rh2 rn2 ro2 rd2 un2 kp2 := by
  obtain ⟨kk, r, z2, hid2, ks2, ws2, ts2, cn2, ct2, ch2, de2, rs2, dt2, ix2, s1, s2, s3, s4, nw2, am2, rk2, rw2, rt2, rz2, rh2, rn2, ro2, rd2, b, un2, an2, th2, a2, tr2, kp2, g7, g8, hO, e0, e1⟩ := m_raise (fl := fl) (z := z) (hid := hid) (ks := ks) (ws := ws) (ts := ts) (cn := cn) (ct' := ct') (ch := ch) (de := de) (rs := rs) (dt := dt) (ix := ix) (o1 := o1) (o2 := o2) (o3 := o3) (o4 := o4) (nw := nw) (am := am) (rk := rk) (rw' := rw') (rt := rt) (rz := rz) (rh := rh) (rn := rn') (ro := ro) (rd := rd) (un := un) (an := an) (th := th) (a := a) (tr := tr) (kp := kp) (p1 := p1) (p2 := 0) (p3 := 0) hf hL hH
  unfold F_L_raise
  rw [g7, bx28_e]
  rcases hO with ⟨rfl, rfl, rfl⟩ | ⟨rfl, rfl, rfl⟩
  · rw [if_pos rfl]
    exact ⟨_, _, _, _, _, _, _, _, _, _, _, _, _, _, _, _, _, _, _, _, _, _, _, _, _, _, _, _, _, _, _, _, _, _, _, rfl, g8, ⟨rfl, fun _ => lo0⟩, e0, e1⟩
  · rw [if_neg (by decide), if_pos rfl]
    exact ⟨_, _, _, _, _, _, _, _, _, _, _, _, _, _, _, _, _, _, _, _, _, _, _, _, _, _, _, _, _, _, _, _, _, _, _, rfl, g8, ⟨rfl, fun h => absurd h (by decide)⟩, e0, e1⟩
theorem lw_lower (hf : 2000 ≤ fl) (hL : LL z hid ks ws ts cn ct' ch a) (hH : HR nw am rk rw' rt rz rh rn' ro rd un kp) {de th o1 o2 o3 o4 p1 : Int32} {tr : Nat → Int32} {out : Nat → Int64} : ∃ K z2 hid2 ks2 ws2 ts2 cn2 ct2 ch2 de2 rs2 dt2 ix2 s1 s2 s3 s4 nw2 am2 rk2 rw2 rt2 rz2 rh2 rn2 ro2 rd2 b un2 an2 th2 a2 tr2 kp2 out2, F_L_lower fl z hid ks ws ts cn ct' ch de rs dt ix o1 o2 o3 o4 nw am rk rw' rt rz rh rn' ro rd out p1 = some (K, z2, hid2, ks2, ws2, ts2, cn2, ct2, ch2, de2, rs2, dt2, ix2, s1, s2, s3, s4, nw2, am2, rk2, rw2, rt2, rz2, rh2, rn2, ro2, rd2, out2) ∧ F_X8_lower_ fl un rs dt ix an th a tr kp p1 = some (b, un2, rs2, dt2, ix2, an2, th2, a2, tr2, kp2) ∧ LO K out2 b th2 ∧ LL z2 hid2 ks2 ws2 ts2 cn2 ct2 ch2 a2 ∧ HR nw2 am2 rk2 rw2 rt2 rz2 rh2 rn2 ro2 rd2 un2 kp2 := by
  obtain ⟨kk, r, z2, hid2, ks2, ws2, ts2, cn2, ct2, ch2, de2, rs2, dt2, ix2, s1, s2, s3, s4, nw2, am2, rk2, rw2, rt2, rz2, rh2, rn2, ro2, rd2, b, un2, an2, th2, a2, tr2, kp2, g7, g8, hO, e0, e1⟩ := m_lower (fl := fl) (z := z) (hid := hid) (ks := ks) (ws := ws) (ts := ts) (cn := cn) (ct' := ct') (ch := ch) (de := de) (rs := rs) (dt := dt) (ix := ix) (o1 := o1) (o2 := o2) (o3 := o3) (o4 := o4) (nw := nw) (am := am) (rk := rk) (rw' := rw') (rt := rt) (rz := rz) (rh := rh) (rn := rn') (ro := ro) (rd := rd) (un := un) (an := an) (th := th) (a := a) (tr := tr) (kp := kp) (p1 := p1) (p2 := 0) (p3 := 0) hf hL hH
  unfold F_L_lower
  rw [g7, bx28_e]
  rcases hO with ⟨rfl, rfl, rfl⟩ | ⟨rfl, rfl, rfl⟩
  · rw [if_pos rfl]
    exact ⟨_, _, _, _, _, _, _, _, _, _, _, _, _, _, _, _, _, _, _, _, _, _, _, _, _, _, _, _, _, _, _, _, _, _, _, rfl, g8, ⟨rfl, fun _ => lo0⟩, e0, e1⟩
  · rw [if_neg (by decide), if_pos rfl]
    exact ⟨_, _, _, _, _, _, _, _, _, _, _, _, _, _, _, _, _, _, _, _, _, _, _, _, _, _, _, _, _, _, _, _, _, _, _, rfl, g8, ⟨rfl, fun h => absurd h (by decide)⟩, e0, e1⟩
theorem lw_forget (hf : 2000 ≤ fl) (hL : LL z hid ks ws ts cn ct' ch a) (hH : HR nw am rk rw' rt rz rh rn' ro rd un kp) {de th o1 o2 o3 o4 p1 : Int32} {tr : Nat → Int32} {out : Nat → Int64} : ∃ K z2 hid2 ks2 ws2 ts2 cn2 ct2 ch2 de2 rs2 dt2 ix2 s1 s2 s3 s4 nw2 am2 rk2 rw2 rt2 rz2 rh2 rn2 ro2 rd2 b un2 an2 th2 a2 tr2 kp2 out2, F_L_forget fl z hid ks ws ts cn ct' ch de rs dt ix o1 o2 o3 o4 nw am rk rw' rt rz rh rn' ro rd out p1 = some (K, z2, hid2, ks2, ws2, ts2, cn2, ct2, ch2, de2, rs2, dt2, ix2, s1, s2, s3, s4, nw2, am2, rk2, rw2, rt2, rz2, rh2, rn2, ro2, rd2, out2) ∧ F_X8_forget fl un rs dt ix an th a tr kp p1 = some (b, un2, rs2, dt2, ix2, an2, th2, a2, tr2, kp2) ∧ LO K out2 b th2 ∧ LL z2 hid2 ks2 ws2 ts2 cn2 ct2 ch2 a2 ∧ HR nw2 am2 rk2 rw2 rt2 rz2 rh2 rn2 ro2 rd2 un2 kp2 := by
  obtain ⟨kk, r, z2, hid2, ks2, ws2, ts2, cn2, ct2, ch2, de2, rs2, dt2, ix2, s1, s2, s3, s4, nw2, am2, rk2, rw2, rt2, rz2, rh2, rn2, ro2, rd2, b, un2, an2, th2, a2, tr2, kp2, g7, g8, hO, e0, e1⟩ := m_forget (fl := fl) (z := z) (hid := hid) (ks := ks) (ws := ws) (ts := ts) (cn := cn) (ct' := ct') (ch := ch) (de := de) (rs := rs) (dt := dt) (ix := ix) (o1 := o1) (o2 := o2) (o3 := o3) (o4 := o4) (nw := nw) (am := am) (rk := rk) (rw' := rw') (rt := rt) (rz := rz) (rh := rh) (rn := rn') (ro := ro) (rd := rd) (un := un) (an := an) (th := th) (a := a) (tr := tr) (kp := kp) (p1 := p1) (p2 := 0) (p3 := 0) hf hL hH
  unfold F_L_forget
  rw [g7, bx28_e]
  rcases hO with ⟨rfl, rfl, rfl⟩ | ⟨rfl, rfl, rfl⟩
  · rw [if_pos rfl]
    exact ⟨_, _, _, _, _, _, _, _, _, _, _, _, _, _, _, _, _, _, _, _, _, _, _, _, _, _, _, _, _, _, _, _, _, _, _, rfl, g8, ⟨rfl, fun _ => lo0⟩, e0, e1⟩
  · rw [if_neg (by decide), if_pos rfl]
    exact ⟨_, _, _, _, _, _, _, _, _, _, _, _, _, _, _, _, _, _, _, _, _, _, _, _, _, _, _, _, _, _, _, _, _, _, _, rfl, g8, ⟨rfl, fun h => absurd h (by decide)⟩, e0, e1⟩
theorem lw_recall (hf : 2000 ≤ fl) (hL : LL z hid ks ws ts cn ct' ch a) (hH : HR nw am rk rw' rt rz rh rn' ro rd un kp) {de th o1 o2 o3 o4 p1 : Int32} {tr : Nat → Int32} {out : Nat → Int64} : ∃ K z2 hid2 ks2 ws2 ts2 cn2 ct2 ch2 de2 rs2 dt2 ix2 s1 s2 s3 s4 nw2 am2 rk2 rw2 rt2 rz2 rh2 rn2 ro2 rd2 b un2 an2 th2 a2 tr2 kp2 out2, F_L_recall fl z hid ks ws ts cn ct' ch de rs dt ix o1 o2 o3 o4 nw am rk rw' rt rz rh rn' ro rd out p1 = some (K, z2, hid2, ks2, ws2, ts2, cn2, ct2, ch2, de2, rs2, dt2, ix2, s1, s2, s3, s4, nw2, am2, rk2, rw2, rt2, rz2, rh2, rn2, ro2, rd2, out2) ∧ F_X8_recall fl un rs dt ix an th a tr kp p1 = some (b, un2, rs2, dt2, ix2, an2, th2, a2, tr2, kp2) ∧ LO K out2 b th2 ∧ LL z2 hid2 ks2 ws2 ts2 cn2 ct2 ch2 a2 ∧ HR nw2 am2 rk2 rw2 rt2 rz2 rh2 rn2 ro2 rd2 un2 kp2 := by
  obtain ⟨kk, r, z2, hid2, ks2, ws2, ts2, cn2, ct2, ch2, de2, rs2, dt2, ix2, s1, s2, s3, s4, nw2, am2, rk2, rw2, rt2, rz2, rh2, rn2, ro2, rd2, b, un2, an2, th2, a2, tr2, kp2, g7, g8, hO, e0, e1⟩ := m_recall (fl := fl) (z := z) (hid := hid) (ks := ks) (ws := ws) (ts := ts) (cn := cn) (ct' := ct') (ch := ch) (de := de) (rs := rs) (dt := dt) (ix := ix) (o1 := o1) (o2 := o2) (o3 := o3) (o4 := o4) (nw := nw) (am := am) (rk := rk) (rw' := rw') (rt := rt) (rz := rz) (rh := rh) (rn := rn') (ro := ro) (rd := rd) (un := un) (an := an) (th := th) (a := a) (tr := tr) (kp := kp) (p1 := p1) (p2 := 0) (p3 := 0) hf hL hH
  unfold F_L_recall
  rw [g7, bx28_e]
  rcases hO with ⟨rfl, rfl, rfl⟩ | ⟨rfl, rfl, rfl⟩
  · rw [if_pos rfl]
    exact ⟨_, _, _, _, _, _, _, _, _, _, _, _, _, _, _, _, _, _, _, _, _, _, _, _, _, _, _, _, _, _, _, _, _, _, _, rfl, g8, ⟨rfl, fun _ => lo0⟩, e0, e1⟩
  · rw [if_neg (by decide), if_pos rfl]
    exact ⟨_, _, _, _, _, _, _, _, _, _, _, _, _, _, _, _, _, _, _, _, _, _, _, _, _, _, _, _, _, _, _, _, _, _, _, rfl, g8, ⟨rfl, fun h => absurd h (by decide)⟩, e0, e1⟩
theorem lw_weigh (hf : 2000 ≤ fl) (hL : LL z hid ks ws ts cn ct' ch a) (hH : HR nw am rk rw' rt rz rh rn' ro rd un kp) {de th o1 o2 o3 o4 p1 p2 : Int32} {tr : Nat → Int32} {out : Nat → Int64} : ∃ K z2 hid2 ks2 ws2 ts2 cn2 ct2 ch2 de2 rs2 dt2 ix2 s1 s2 s3 s4 nw2 am2 rk2 rw2 rt2 rz2 rh2 rn2 ro2 rd2 b un2 an2 th2 a2 tr2 kp2 out2, F_L_weigh fl z hid ks ws ts cn ct' ch de rs dt ix o1 o2 o3 o4 nw am rk rw' rt rz rh rn' ro rd out p1 p2 = some (K, z2, hid2, ks2, ws2, ts2, cn2, ct2, ch2, de2, rs2, dt2, ix2, s1, s2, s3, s4, nw2, am2, rk2, rw2, rt2, rz2, rh2, rn2, ro2, rd2, out2) ∧ F_X8_weigh fl un rs dt ix an th a tr kp p1 p2 = some (b, un2, rs2, dt2, ix2, an2, th2, a2, tr2, kp2) ∧ LO K out2 b th2 ∧ LL z2 hid2 ks2 ws2 ts2 cn2 ct2 ch2 a2 ∧ HR nw2 am2 rk2 rw2 rt2 rz2 rh2 rn2 ro2 rd2 un2 kp2 := by
  obtain ⟨kk, r, z2, hid2, ks2, ws2, ts2, cn2, ct2, ch2, de2, rs2, dt2, ix2, s1, s2, s3, s4, nw2, am2, rk2, rw2, rt2, rz2, rh2, rn2, ro2, rd2, b, un2, an2, th2, a2, tr2, kp2, g7, g8, hO, e0, e1⟩ := m_weigh (fl := fl) (z := z) (hid := hid) (ks := ks) (ws := ws) (ts := ts) (cn := cn) (ct' := ct') (ch := ch) (de := de) (rs := rs) (dt := dt) (ix := ix) (o1 := o1) (o2 := o2) (o3 := o3) (o4 := o4) (nw := nw) (am := am) (rk := rk) (rw' := rw') (rt := rt) (rz := rz) (rh := rh) (rn := rn') (ro := ro) (rd := rd) (un := un) (an := an) (th := th) (a := a) (tr := tr) (kp := kp) (p1 := p1) (p2 := p2) (p3 := 0) hf hL hH
  unfold F_L_weigh
  rw [g7, bx28_e]
  rcases hO with ⟨rfl, rfl, rfl⟩ | ⟨rfl, rfl, rfl⟩
  · rw [if_pos rfl]
    exact ⟨_, _, _, _, _, _, _, _, _, _, _, _, _, _, _, _, _, _, _, _, _, _, _, _, _, _, _, _, _, _, _, _, _, _, _, rfl, g8, ⟨rfl, fun _ => lo0⟩, e0, e1⟩
  · rw [if_neg (by decide), if_pos rfl]
    exact ⟨_, _, _, _, _, _, _, _, _, _, _, _, _, _, _, _, _, _, _, _, _, _, _, _, _, _, _, _, _, _, _, _, _, _, _, rfl, g8, ⟨rfl, fun h => absurd h (by decide)⟩, e0, e1⟩
theorem lw_folderOf (hf : 2000 ≤ fl) (hL : LL z hid ks ws ts cn ct' ch a) {out : Nat → Int64} : ∃ K y1 y2 y3 y4 y5 b th2 g2 f2 way2 out2, F_L_folderOf fl z hid ks ws ts x1 x2 x3 x4 x5 out p1 p2 = some (K, y1, y2, y3, y4, y5, out2) ∧ F_X8_folderOf fl th g f a way p1 p2 = some (b, th2, g2, f2, way2) ∧ LO K out2 b th2 := by
  obtain ⟨kk, r, y1, y2, y3, y4, y5, b, th2, g2, f2, way2, g7, g8, hO⟩ := m_folderOf (fl := fl) (z := z) (hid := hid) (ks := ks) (ws := ws) (ts := ts) (x1 := x1) (x2 := x2) (x3 := x3) (x4 := x4) (x5 := x5) (th := th) (g := g) (f := f) (a := a) (way := way) (p1 := p1) (p2 := p2) hf hL
  unfold F_L_folderOf
  rw [g7, bx7_e]
  rcases hO with ⟨rfl, rfl, rfl⟩ | ⟨rfl, rfl, rfl⟩ | ⟨rfl, rfl, rfl⟩
  · rw [if_pos rfl]
    exact ⟨_, _, _, _, _, _, _, _, _, _, _, _, rfl, g8, ⟨rfl, fun _ => lo0⟩⟩
  · rw [if_neg (by decide), if_pos rfl]
    exact ⟨_, _, _, _, _, _, _, _, _, _, _, _, rfl, g8, ⟨rfl, fun h => absurd h (by decide)⟩⟩
  · rw [if_neg (by decide), if_neg (by decide), if_pos rfl]
    exact ⟨_, _, _, _, _, _, _, _, _, _, _, _, rfl, g8, ⟨rfl, fun h => absurd h (by decide)⟩⟩
theorem lw_rank (hf : 2000 ≤ fl) (hL : LL z hid ks ws ts cn ct' ch a) {out : Nat → Int64} : ∃ K y1 y2 y3 y4 y5 b th2 out2, F_L_rank fl z hid ks ts x1 x2 x3 x4 x5 out p1 = some (K, y1, y2, y3, y4, y5, out2) ∧ F_X8_rank fl th a p1 = some (b, th2) ∧ LO K out2 b th2 := by
  obtain ⟨kk, r, y1, y2, y3, y4, y5, b, th2, g7, g8, hO⟩ := m_rank (fl := fl) (z := z) (hid := hid) (ks := ks) (ts := ts) (x1 := x1) (x2 := x2) (x3 := x3) (x4 := x4) (x5 := x5) (th := th) (a := a) (p1 := p1) hf hL
  unfold F_L_rank
  rw [g7, bx7_e]
  rcases hO with ⟨rfl, rfl, rfl⟩ | ⟨rfl, rfl, rfl⟩
  · rw [if_pos rfl]
    exact ⟨_, _, _, _, _, _, _, _, _, rfl, g8, ⟨rfl, fun _ => lo0⟩⟩
  · rw [if_neg (by decide), if_pos rfl]
    exact ⟨_, _, _, _, _, _, _, _, _, rfl, g8, ⟨rfl, fun h => absurd h (by decide)⟩⟩
theorem lw_rankAgain (hf : 2000 ≤ fl) (hL : LL z hid ks ws ts cn ct' ch a) {out : Nat → Int64} : ∃ K b th2 out2, F_L_rankAgain fl z ks out p1 = some (K, out2) ∧ F_X8_rankAgain fl th a p1 = some (b, th2) ∧ LO K out2 b th2 := by
  obtain ⟨kk, r, b, th2, g7, g8, hO⟩ := m_rankAgain (fl := fl) (z := z) (ks := ks) (th := th) (a := a) (p1 := p1) hf hL
  unfold F_L_rankAgain
  rw [g7, bx2_e]
  rcases hO with ⟨rfl, rfl, rfl⟩ | ⟨rfl, rfl, rfl⟩
  · rw [if_pos rfl]
    exact ⟨_, _, _, _, rfl, g8, ⟨rfl, fun _ => lo0⟩⟩
  · rw [if_neg (by decide), if_pos rfl]
    exact ⟨_, _, _, _, rfl, g8, ⟨rfl, fun h => absurd h (by decide)⟩⟩
theorem lw_keyAt (hL : LL z hid ks ws ts cn ct' ch a) {out : Nat → Int64} : ∃ K b th2 out2, F_L_keyAt fl z ks out p1 = some (K, out2) ∧ F_X8_keyAt fl th a p1 = some (b, th2) ∧ LO K out2 b th2 := by
  obtain ⟨kk, r, b, th2, g7, g8, hO⟩ := m_keyAt (fl := fl) (z := z) (ks := ks) (th := th) (a := a) (p1 := p1) hL
  unfold F_L_keyAt
  rw [g7, bx2_e]
  rcases hO with ⟨rfl, rfl, rfl⟩ | ⟨rfl, rfl, rfl⟩
  · rw [if_pos rfl]
    exact ⟨_, _, _, _, rfl, g8, ⟨rfl, fun _ => lo0⟩⟩
  · rw [if_neg (by decide), if_pos rfl]
    exact ⟨_, _, _, _, rfl, g8, ⟨rfl, fun h => absurd h (by decide)⟩⟩
theorem lw_steps (hf : 2000 ≤ fl) (hL : LL z hid ks ws ts cn ct' ch a) {out : Nat → Int64} : ∃ K y1 y2 y3 y4 y5 b th2 g2 f2 way2 out2, F_L_steps fl z hid ks ts x1 x2 x3 x4 x5 out p1 = some (K, y1, y2, y3, y4, y5, out2) ∧ F_X8_steps fl th g f a way p1 = some (b, th2, g2, f2, way2) ∧ LO K out2 b th2 := by
  obtain ⟨kk, r, y1, y2, y3, y4, y5, b, th2, g2, f2, way2, g7, g8, hO⟩ := m_steps (fl := fl) (z := z) (hid := hid) (ks := ks) (ts := ts) (x1 := x1) (x2 := x2) (x3 := x3) (x4 := x4) (x5 := x5) (th := th) (g := g) (f := f) (a := a) (way := way) (p1 := p1) hf hL
  unfold F_L_steps
  rw [g7, bx7_e]
  rcases hO with ⟨rfl, rfl, rfl⟩ | ⟨rfl, rfl, rfl⟩
  · rw [if_pos rfl]
    exact ⟨_, _, _, _, _, _, _, _, _, _, _, _, rfl, g8, ⟨rfl, fun _ => lo0⟩⟩
  · rw [if_neg (by decide), if_pos rfl]
    exact ⟨_, _, _, _, _, _, _, _, _, _, _, _, rfl, g8, ⟨rfl, fun h => absurd h (by decide)⟩⟩
theorem lw_stepsAgain (hf : 2000 ≤ fl) (hL : LL z hid ks ws ts cn ct' ch a) {out : Nat → Int64} : ∃ K b th2 g2 f2 way2 out2, F_L_stepsAgain fl z hid ks ts out p1 = some (K, out2) ∧ F_X8_stepsAgain fl th g f a way p1 = some (b, th2, g2, f2, way2) ∧ LO K out2 b th2 := by
  obtain ⟨kk, r, b, th2, g2, f2, way2, g7, g8, hO⟩ := m_stepsAgain (fl := fl) (z := z) (hid := hid) (ks := ks) (ts := ts) (th := th) (g := g) (f := f) (a := a) (way := way) (p1 := p1) hf hL
  unfold F_L_stepsAgain
  rw [g7, bx2_e]
  rcases hO with ⟨rfl, rfl, rfl⟩ | ⟨rfl, rfl, rfl⟩
  · rw [if_pos rfl]
    exact ⟨_, _, _, _, _, _, _, rfl, g8, ⟨rfl, fun _ => lo0⟩⟩
  · rw [if_neg (by decide), if_pos rfl]
    exact ⟨_, _, _, _, _, _, _, rfl, g8, ⟨rfl, fun h => absurd h (by decide)⟩⟩
theorem lw_placeOf (hf : 2000 ≤ fl) (hL : LL z hid ks ws ts cn ct' ch a) {out : Nat → Int64} : ∃ K y1 y2 y3 y4 y5 b th2 g2 f2 way2 out2, F_L_placeOf fl z hid ks ts x1 x2 x3 x4 x5 out p1 p2 = some (K, y1, y2, y3, y4, y5, out2) ∧ F_X8_placeOf fl th g f a way p1 p2 = some (b, th2, g2, f2, way2) ∧ LO K out2 b th2 := by
  obtain ⟨kk, r, y1, y2, y3, y4, y5, b, th2, g2, f2, way2, g7, g8, hO⟩ := m_placeOf (fl := fl) (z := z) (hid := hid) (ks := ks) (ts := ts) (x1 := x1) (x2 := x2) (x3 := x3) (x4 := x4) (x5 := x5) (th := th) (g := g) (f := f) (a := a) (way := way) (p1 := p1) (p2 := p2) hf hL
  unfold F_L_placeOf
  rw [g7, bx7_e]
  rcases hO with ⟨rfl, rfl, rfl⟩ | ⟨rfl, rfl, rfl⟩ | ⟨rfl, rfl, rfl⟩
  · rw [if_pos rfl]
    exact ⟨_, _, _, _, _, _, _, _, _, _, _, _, rfl, g8, ⟨rfl, fun _ => lo0⟩⟩
  · rw [if_neg (by decide), if_pos rfl]
    exact ⟨_, _, _, _, _, _, _, _, _, _, _, _, rfl, g8, ⟨rfl, fun h => absurd h (by decide)⟩⟩
  · rw [if_neg (by decide), if_neg (by decide), if_pos rfl]
    exact ⟨_, _, _, _, _, _, _, _, _, _, _, _, rfl, g8, ⟨rfl, fun h => absurd h (by decide)⟩⟩
theorem lw_falls (hf : 2000 ≤ fl) (hL : LL z hid ks ws ts cn ct' ch a) {out : Nat → Int64} : ∃ K y1 y2 y3 y4 y5 b th2 g2 f2 way2 out2, F_L_falls fl z hid ks ts x1 x2 x3 x4 x5 out p1 = some (K, y1, y2, y3, y4, y5, out2) ∧ F_X8_falls fl th g f a way p1 = some (b, th2, g2, f2, way2) ∧ LO K out2 b th2 := by
  obtain ⟨kk, r, y1, y2, y3, y4, y5, b, th2, g2, f2, way2, g7, g8, hO⟩ := m_falls (fl := fl) (z := z) (hid := hid) (ks := ks) (ts := ts) (x1 := x1) (x2 := x2) (x3 := x3) (x4 := x4) (x5 := x5) (th := th) (g := g) (f := f) (a := a) (way := way) (p1 := p1) hf hL
  unfold F_L_falls
  rw [g7, bx7_e]
  rcases hO with ⟨rfl, rfl, rfl⟩ | ⟨rfl, rfl, rfl⟩
  · rw [if_pos rfl]
    exact ⟨_, _, _, _, _, _, _, _, _, _, _, _, rfl, g8, ⟨rfl, fun _ => lo0⟩⟩
  · rw [if_neg (by decide), if_pos rfl]
    exact ⟨_, _, _, _, _, _, _, _, _, _, _, _, rfl, g8, ⟨rfl, fun h => absurd h (by decide)⟩⟩
theorem lw_floor (hf : 2000 ≤ fl) (hL : LL z hid ks ws ts cn ct' ch a) {out : Nat → Int64} : ∃ K b th2 out2, F_L_floor fl z ks out p1 = some (K, out2) ∧ F_X8_floor fl th a p1 = some (b, th2) ∧ LO K out2 b th2 := by
  obtain ⟨kk, r, b, th2, g7, g8, hO⟩ := m_floor (fl := fl) (z := z) (ks := ks) (th := th) (a := a) (p1 := p1) hf hL
  unfold F_L_floor
  rw [g7, bx2_e]
  rcases hO with ⟨rfl, rfl, rfl⟩ | ⟨rfl, rfl, rfl⟩ | ⟨rfl, rfl, rfl⟩
  · rw [if_pos rfl]
    exact ⟨_, _, _, _, rfl, g8, ⟨rfl, fun _ => lo0⟩⟩
  · rw [if_neg (by decide), if_pos rfl]
    exact ⟨_, _, _, _, rfl, g8, ⟨rfl, fun h => absurd h (by decide)⟩⟩
  · rw [if_neg (by decide), if_neg (by decide), if_pos rfl]
    exact ⟨_, _, _, _, rfl, g8, ⟨rfl, fun h => absurd h (by decide)⟩⟩
theorem lw_ceiling (hf : 2000 ≤ fl) (hL : LL z hid ks ws ts cn ct' ch a) {out : Nat → Int64} : ∃ K b th2 out2, F_L_ceiling fl z ks out p1 = some (K, out2) ∧ F_X8_ceiling fl th a p1 = some (b, th2) ∧ LO K out2 b th2 := by
  obtain ⟨kk, r, b, th2, g7, g8, hO⟩ := m_ceiling (fl := fl) (z := z) (ks := ks) (th := th) (a := a) (p1 := p1) hf hL
  unfold F_L_ceiling
  rw [g7, bx2_e]
  rcases hO with ⟨rfl, rfl, rfl⟩ | ⟨rfl, rfl, rfl⟩ | ⟨rfl, rfl, rfl⟩
  · rw [if_pos rfl]
    exact ⟨_, _, _, _, rfl, g8, ⟨rfl, fun _ => lo0⟩⟩
  · rw [if_neg (by decide), if_pos rfl]
    exact ⟨_, _, _, _, rfl, g8, ⟨rfl, fun h => absurd h (by decide)⟩⟩
  · rw [if_neg (by decide), if_neg (by decide), if_pos rfl]
    exact ⟨_, _, _, _, rfl, g8, ⟨rfl, fun h => absurd h (by decide)⟩⟩
theorem lw_count (hf : 2000 ≤ fl) (hL : LL z hid ks ws ts cn ct' ch a) {out : Nat → Int64} : ∃ K y1 y2 y3 y4 y5 b th2 out2, F_L_count fl z hid ks ts x1 x2 x3 x4 x5 out p1 p2 = some (K, y1, y2, y3, y4, y5, out2) ∧ F_X8_count fl th a p1 p2 = some (b, th2) ∧ LO K out2 b th2 := by
  obtain ⟨kk, r, y1, y2, y3, y4, y5, b, th2, g7, g8, hO⟩ := m_count (fl := fl) (z := z) (hid := hid) (ks := ks) (ts := ts) (x1 := x1) (x2 := x2) (x3 := x3) (x4 := x4) (x5 := x5) (th := th) (a := a) (p1 := p1) (p2 := p2) hf hL
  unfold F_L_count
  rw [g7, bx7_e]
  rcases hO with ⟨rfl, rfl, rfl⟩ | ⟨rfl, rfl, rfl⟩
  · rw [if_pos rfl]
    exact ⟨_, _, _, _, _, _, _, _, _, rfl, g8, ⟨rfl, fun _ => lo0⟩⟩
  · rw [if_neg (by decide), if_pos rfl]
    exact ⟨_, _, _, _, _, _, _, _, _, rfl, g8, ⟨rfl, fun h => absurd h (by decide)⟩⟩
theorem lw_countAgain (hf : 2000 ≤ fl) (hL : LL z hid ks ws ts cn ct' ch a) {out : Nat → Int64} : ∃ K b th2 out2, F_L_countAgain fl z ks out p1 p2 = some (K, out2) ∧ F_X8_countAgain fl th a p1 p2 = some (b, th2) ∧ LO K out2 b th2 := by
  obtain ⟨kk, r, b, th2, g7, g8, hO⟩ := m_countAgain (fl := fl) (z := z) (ks := ks) (th := th) (a := a) (p1 := p1) (p2 := p2) hf hL
  unfold F_L_countAgain
  rw [g7, bx2_e]
  rcases hO with ⟨rfl, rfl, rfl⟩ | ⟨rfl, rfl, rfl⟩
  · rw [if_pos rfl]
    exact ⟨_, _, _, _, rfl, g8, ⟨rfl, fun _ => lo0⟩⟩
  · rw [if_neg (by decide), if_pos rfl]
    exact ⟨_, _, _, _, rfl, g8, ⟨rfl, fun h => absurd h (by decide)⟩⟩
theorem lw_weightIn (hf : 2000 ≤ fl) (hL : LL z hid ks ws ts cn ct' ch a) {out : Nat → Int64} : ∃ K b th2 out2, F_L_weightIn fl z ks ws out p1 p2 = some (K, out2) ∧ F_X8_weightIn fl th a p1 p2 = some (b, th2) ∧ LO K out2 b th2 := by
  obtain ⟨kk, r, b, th2, g7, g8, hO⟩ := m_weightIn (fl := fl) (z := z) (ks := ks) (ws := ws) (th := th) (a := a) (p1 := p1) (p2 := p2) hf hL
  unfold F_L_weightIn
  rw [g7, bx2_e]
  rcases hO with ⟨rfl, rfl, rfl⟩ | ⟨rfl, rfl, rfl⟩
  · rw [if_pos rfl]
    exact ⟨_, _, _, _, rfl, g8, ⟨rfl, fun _ => lo0⟩⟩
  · rw [if_neg (by decide), if_pos rfl]
    exact ⟨_, _, _, _, rfl, g8, ⟨rfl, fun h => absurd h (by decide)⟩⟩
theorem lw_heaviestIn (hf : 2000 ≤ fl) (hL : LL z hid ks ws ts cn ct' ch a) {out : Nat → Int64} : ∃ K b th2 out2, F_L_heaviestIn fl z ks ws out p1 p2 = some (K, out2) ∧ F_X8_heaviestIn fl th a p1 p2 = some (b, th2) ∧ LO K out2 b th2 := by
  obtain ⟨kk, r, b, th2, g7, g8, hO⟩ := m_heaviestIn (fl := fl) (z := z) (ks := ks) (ws := ws) (th := th) (a := a) (p1 := p1) (p2 := p2) hf hL
  unfold F_L_heaviestIn
  rw [g7, bx2_e]
  rcases hO with ⟨rfl, rfl, rfl⟩ | ⟨rfl, rfl, rfl⟩ | ⟨rfl, rfl, rfl⟩
  · rw [if_pos rfl]
    exact ⟨_, _, _, _, rfl, g8, ⟨rfl, fun _ => lo0⟩⟩
  · rw [if_neg (by decide), if_pos rfl]
    exact ⟨_, _, _, _, rfl, g8, ⟨rfl, fun h => absurd h (by decide)⟩⟩
  · rw [if_neg (by decide), if_neg (by decide), if_pos rfl]
    exact ⟨_, _, _, _, rfl, g8, ⟨rfl, fun h => absurd h (by decide)⟩⟩
theorem lw_levelSize (hf : 2000 ≤ fl) (hL : LL z hid ks ws ts cn ct' ch a) {out : Nat → Int64} : ∃ K b th2 out2, F_L_levelSize fl z ts out p1 = some (K, out2) ∧ F_X8_levelSize fl th a p1 = some (b, th2) ∧ LO K out2 b th2 := by
  obtain ⟨kk, r, b, th2, g7, g8, hO⟩ := m_levelSize (fl := fl) (z := z) (ts := ts) (th := th) (a := a) (p1 := p1) hf hL
  unfold F_L_levelSize
  rw [g7, bx2_e]
  rcases hO with ⟨rfl, rfl, rfl⟩ | ⟨rfl, rfl, rfl⟩
  · rw [if_pos rfl]
    exact ⟨_, _, _, _, rfl, g8, ⟨rfl, fun _ => lo0⟩⟩
  · rw [if_neg (by decide), if_pos rfl]
    exact ⟨_, _, _, _, rfl, g8, ⟨rfl, fun h => absurd h (by decide)⟩⟩
theorem lw_levelAt (hf : 2000 ≤ fl) (hL : LL z hid ks ws ts cn ct' ch a) {out : Nat → Int64} : ∃ K b th2 out2, F_L_levelAt fl z ks ts out p1 p2 = some (K, out2) ∧ F_X8_levelAt fl th a p1 p2 = some (b, th2) ∧ LO K out2 b th2 := by
  obtain ⟨kk, r, b, th2, g7, g8, hO⟩ := m_levelAt (fl := fl) (z := z) (ks := ks) (ts := ts) (th := th) (a := a) (p1 := p1) (p2 := p2) hf hL
  unfold F_L_levelAt
  rw [g7, bx2_e]
  rcases hO with ⟨rfl, rfl, rfl⟩ | ⟨rfl, rfl, rfl⟩ | ⟨rfl, rfl, rfl⟩
  · rw [if_pos rfl]
    exact ⟨_, _, _, _, rfl, g8, ⟨rfl, fun _ => lo0⟩⟩
  · rw [if_neg (by decide), if_pos rfl]
    exact ⟨_, _, _, _, rfl, g8, ⟨rfl, fun h => absurd h (by decide)⟩⟩
  · rw [if_neg (by decide), if_neg (by decide), if_pos rfl]
    exact ⟨_, _, _, _, rfl, g8, ⟨rfl, fun h => absurd h (by decide)⟩⟩
theorem lw_span (hf : 2000 ≤ fl) (hL : LL z hid ks ws ts cn ct' ch a) {out : Nat → Int64} : ∃ K b th2 out2, F_L_span fl z ks ts out p1 p2 = some (K, out2) ∧ F_X8_span fl th a p1 p2 = some (b, th2) ∧ LO K out2 b th2 := by
  obtain ⟨kk, r, b, th2, g7, g8, hO⟩ := m_span (fl := fl) (z := z) (ks := ks) (ts := ts) (th := th) (a := a) (p1 := p1) (p2 := p2) hf hL
  unfold F_L_span
  rw [g7, bx2_e]
  rcases hO with ⟨rfl, rfl, rfl⟩ | ⟨rfl, rfl, rfl⟩ | ⟨rfl, rfl, rfl⟩ | ⟨rfl, rfl, rfl⟩
  · rw [if_pos rfl]
    exact ⟨_, _, _, _, rfl, g8, ⟨rfl, fun _ => lo0⟩⟩
  · rw [if_neg (by decide), if_pos rfl]
    exact ⟨_, _, _, _, rfl, g8, ⟨rfl, fun h => absurd h (by decide)⟩⟩
  · rw [if_neg (by decide), if_neg (by decide), if_pos rfl]
    exact ⟨_, _, _, _, rfl, g8, ⟨rfl, fun h => absurd h (by decide)⟩⟩
  · rw [if_neg (by decide), if_neg (by decide), if_neg (by decide), if_pos rfl]
    exact ⟨_, _, _, _, rfl, g8, ⟨rfl, fun h => absurd h (by decide)⟩⟩
theorem lw_headSpan (hf : 2000 ≤ fl) (hL : LL z hid ks ws ts cn ct' ch a) {out : Nat → Int64} : ∃ K b th2 out2, F_L_headSpan fl z ts out p1 = some (K, out2) ∧ F_X8_headSpan fl th a p1 = some (b, th2) ∧ LO K out2 b th2 := by
  obtain ⟨kk, r, b, th2, g7, g8, hO⟩ := m_headSpan (fl := fl) (z := z) (ts := ts) (th := th) (a := a) (p1 := p1) hf hL
  unfold F_L_headSpan
  rw [g7, bx2_e]
  rcases hO with ⟨rfl, rfl, rfl⟩ | ⟨rfl, rfl, rfl⟩
  · rw [if_pos rfl]
    exact ⟨_, _, _, _, rfl, g8, ⟨rfl, fun _ => lo0⟩⟩
  · rw [if_neg (by decide), if_pos rfl]
    exact ⟨_, _, _, _, rfl, g8, ⟨rfl, fun h => absurd h (by decide)⟩⟩
theorem lw_longestSearch (hf : 2000 ≤ fl) (hL : LL z hid ks ws ts cn ct' ch a) {out : Nat → Int64} : ∃ K y1 y2 y3 y4 y5 b th2 g2 f2 way2 out2, F_L_longestSearch fl z hid ks ts x1 x2 x3 x4 x5 out = some (K, y1, y2, y3, y4, y5, out2) ∧ F_X8_longestSearch fl th g f a way = some (b, th2, g2, f2, way2) ∧ LO K out2 b th2 := by
  obtain ⟨kk, r, y1, y2, y3, y4, y5, b, th2, g2, f2, way2, g7, g8, hO⟩ := m_longestSearch (fl := fl) (z := z) (hid := hid) (ks := ks) (ts := ts) (x1 := x1) (x2 := x2) (x3 := x3) (x4 := x4) (x5 := x5) (th := th) (g := g) (f := f) (a := a) (way := way) hf hL
  unfold F_L_longestSearch
  rw [g7, bx7_e]
  rcases hO with ⟨rfl, rfl, rfl⟩ | ⟨rfl, rfl, rfl⟩
  · rw [if_pos rfl]
    exact ⟨_, _, _, _, _, _, _, _, _, _, _, _, rfl, g8, ⟨rfl, fun _ => lo0⟩⟩
  · rw [if_neg (by decide), if_pos rfl]
    exact ⟨_, _, _, _, _, _, _, _, _, _, _, _, rfl, g8, ⟨rfl, fun h => absurd h (by decide)⟩⟩
theorem lw_append {ln : Int32} {tx : Nat → Int32} (h : TXT ln tx) {out : Nat → Int64} : ∃ K ln2 tx2 b th2 out2, F_L_append fl ln tx out p1 = some (K, ln2, tx2, out2) ∧ F_X8_append fl ln th tx p1 = some (b, ln2, th2, tx2) ∧ LO K out2 b th2 ∧ TXT ln2 tx2 := by
  obtain ⟨kk, r, ln2, tx2, b, th2, g7, g8, hO, e0⟩ := m_appendT (fl := fl) (ln := ln) (tx := tx) (th := th) (p1 := p1) h
  unfold F_L_append
  rw [g7, bx4_e]
  rcases hO with ⟨rfl, rfl, rfl⟩ | ⟨rfl, rfl, rfl⟩
  · rw [if_pos rfl]
    exact ⟨_, _, _, _, _, _, rfl, g8, ⟨rfl, fun _ => lo0⟩, e0⟩
  · rw [if_neg (by decide), if_pos rfl]
    exact ⟨_, _, _, _, _, _, rfl, g8, ⟨rfl, fun h => absurd h (by decide)⟩, e0⟩
theorem lw_commands (hf : 2000 ≤ fl) (hL : LL z hid ks ws ts cn ct' ch a) (hH : HR nw am rk rw' rt rz rh rn' ro rd un kp) (hT : TXT ln tx) {out : Nat → Int64} : ∃ K lf2 z2 hid2 ks2 ws2 ts2 cn2 ct2 ch2 de2 rs2 dt2 ix2 s1 s2 s3 s4 ra2 rf2 nw2 am2 rk2 rw2 rt2 rz2 rh2 rn2 ro2 rd2 c1 c2 c3 c4 c5 c6 c7 c8 b un2 at2 od2 an2 th2 a2 tr2 kp2 told2 out2, F_L_commands fl lf z hid ks ws ts cn ct' ch de rs dt ix o1 o2 o3 o4 ln ra rf tx nw am rk rw' rt rz rh rn' ro rd b1 b2 b3 b4 b5 b6 b7 b8 out = some (K, lf2, z2, hid2, ks2, ws2, ts2, cn2, ct2, ch2, de2, rs2, dt2, ix2, s1, s2, s3, s4, 0, ra2, rf2, nw2, am2, rk2, rw2, rt2, rz2, rh2, rn2, ro2, rd2, c1, c2, c3, c4, c5, c6, c7, c8, out2) ∧ F_X8_commands fl un ln at8 ord ft rs dt ix an T a tr kp tx told = some (b, un2, 0, at2, od2, lf2, rs2, dt2, ix2, an2, th2, a2, tr2, kp2, told2) ∧ LO K out2 b th2 ∧ LL z2 hid2 ks2 ws2 ts2 cn2 ct2 ch2 a2 ∧ HR nw2 am2 rk2 rw2 rt2 rz2 rh2 rn2 ro2 rd2 un2 kp2 := by
  obtain ⟨kk, r, lf2, z2, hid2, ks2, ws2, ts2, cn2, ct2, ch2, de2, rs2, dt2, ix2, s1, s2, s3, s4, ra2, rf2, nw2, am2, rk2, rw2, rt2, rz2, rh2, rn2, ro2, rd2, c1, c2, c3, c4, c5, c6, c7, c8, b, un2, at2, od2, an2, th2, a2, tr2, kp2, told2, g7, g8, hO, e0, e1⟩ := m_commands (fl := fl) (lf := lf) (z := z) (hid := hid) (ks := ks) (ws := ws) (ts := ts) (cn := cn) (ct' := ct') (ch := ch) (de := de) (rs := rs) (dt := dt) (ix := ix) (o1 := o1) (o2 := o2) (o3 := o3) (o4 := o4) (ln := ln) (ra := ra) (rf := rf) (tx := tx) (nw := nw) (am := am) (rk := rk) (rw' := rw') (rt := rt) (rz := rz) (rh := rh) (rn' := rn') (ro := ro) (rd := rd) (b1 := b1) (b2 := b2) (b3 := b3) (b4 := b4) (b5 := b5) (b6 := b6) (b7 := b7) (b8 := b8) (un := un) (at8 := at8) (ord := ord) (ft := ft) (an := an) (T := T) (a := a) (tr := tr) (kp := kp) (told := told) hf hL hH hT
  unfold F_L_commands
  rw [g7, bx40_e]
  rcases hO with ⟨rfl, rfl, rfl⟩ | ⟨rfl, rfl, rfl⟩ | ⟨rfl, rfl, rfl⟩
  · rw [if_pos rfl]
    exact ⟨_, _, _, _, _, _, _, _, _, _, _, _, _, _, _, _, _, _, _, _, _, _, _, _, _, _, _, _, _, _, _, _, _, _, _, _, _, _, _, _, _, _, _, _, _, _, _, _, _, rfl, g8, ⟨rfl, fun _ => lo0⟩, e0, e1⟩
  · rw [if_neg (by decide), if_pos rfl]
    exact ⟨_, _, _, _, _, _, _, _, _, _, _, _, _, _, _, _, _, _, _, _, _, _, _, _, _, _, _, _, _, _, _, _, _, _, _, _, _, _, _, _, _, _, _, _, _, _, _, _, _, rfl, g8, ⟨rfl, fun h => absurd h (by decide)⟩, e0, e1⟩
  · rw [if_neg (by decide), if_neg (by decide), if_pos rfl]
    exact ⟨_, _, _, _, _, _, _, _, _, _, _, _, _, _, _, _, _, _, _, _, _, _, _, _, _, _, _, _, _, _, _, _, _, _, _, _, _, _, _, _, _, _, _, _, _, _, _, _, _, rfl, g8, ⟨rfl, fun h => absurd h (by decide)⟩, e0, e1⟩
theorem lw_reason {rs dt ix : Int32} {out : Nat → Int64} : ∃ K b th2 out2, F_L_reason fl rs dt ix out p1 = some (K, out2) ∧ F_X8_reason fl rs dt ix th p1 = some (b, th2) ∧ LO K out2 b th2 := by
  obtain ⟨kk, r, b, th2, g7, g8, hO⟩ := m_reason (fl := fl) (rs := rs) (dt := dt) (ix := ix) (th := th) (p1 := p1)
  unfold F_L_reason
  rw [g7, bx2_e]
  rcases hO with ⟨rfl, rfl, rfl⟩ | ⟨rfl, rfl, rfl⟩ | ⟨rfl, rfl, rfl⟩
  · rw [if_pos rfl]
    exact ⟨_, _, _, _, rfl, g8, ⟨rfl, fun _ => lo0⟩⟩
  · rw [if_neg (by decide), if_pos rfl]
    exact ⟨_, _, _, _, rfl, g8, ⟨rfl, fun h => absurd h (by decide)⟩⟩
  · rw [if_neg (by decide), if_neg (by decide), if_pos rfl]
    exact ⟨_, _, _, _, rfl, g8, ⟨rfl, fun h => absurd h (by decide)⟩⟩
theorem lw_account (hf : 2000 ≤ fl) (hL : LL z hid ks ws ts cn ct' ch a) {u le : Int32} {out : Nat → Int64} : ∃ K b th2 out2, F_L_account fl z hid ws ts cn ct' ch le u out p1 = some (K, out2) ∧ F_X8_account fl u le th a p1 = some (b, th2) ∧ LO K out2 b th2 := by
  obtain ⟨kk, r, b, th2, g7, g8, hO⟩ := m_account (fl := fl) (z := z) (hid := hid) (ws := ws) (ts := ts) (cn := cn) (ct' := ct') (ch := ch) (le := le) (u := u) (th := th) (a := a) (p1 := p1) hf hL
  unfold F_L_account
  rw [g7, bx2_e]
  rcases hO with ⟨rfl, rfl, rfl⟩ | ⟨rfl, rfl, rfl⟩
  · rw [if_pos rfl]
    exact ⟨_, _, _, _, rfl, g8, ⟨rfl, fun _ => lo0⟩⟩
  · rw [if_neg (by decide), if_pos rfl]
    exact ⟨_, _, _, _, rfl, g8, ⟨rfl, fun h => absurd h (by decide)⟩⟩
theorem inj6b {A1 A2 A3 A4 A5 A6 : Type} {a1 b1 : A1} {a2 b2 : A2} {a3 b3 : A3} {a4 b4 : A4} {a5 b5 : A5} {a6 b6 : A6} (h : some (a1, a2, a3, a4, a5, a6) = some (b1, b2, b3, b4, b5, b6)) : a3 = b3 := (inj6 h).2.2.1
theorem toss_th {b un2 th2 : Int32} {a2 tr2 kp2 : Nat → Int32} (hf : 2000 ≤ fl) (h : F_X8_toss fl un th a tr kp = some (b, un2, th2, a2, tr2, kp2)) : th2 = 0 := by
  unfold F_X8_toss at h
  rw [q_tries hf, bn2_e] at h
  obtain ⟨r6, n6, h6, h⟩ := bn2_i h
  split at h
  · obtain ⟨q1, q2, q3, h7, h⟩ := bn3_i h; exact (inj6b h).symm
  · obtain ⟨q1, q2, q3, h7, h⟩ := bn3_i h; exact (inj6b h).symm
theorem lw_toss (hf : 2000 ≤ fl) (hL : LL z hid ks ws ts cn ct' ch a) (hH : HR nw am rk rw' rt rz rh rn' ro rd un kp) {o1 o2 o3 o4 : Int32} : ∃ r z2 hid2 ks2 ws2 ts2 cn2 ct2 ch2 de2 s1 s2 s3 s4 nw2 am2 rk2 rw2 rt2 rz2 rh2 rn2 ro2 rd2 un2 th2 a2 tr2 kp2,
    F_X7_toss fl z hid ks ws ts cn ct' ch de rs dt ix o1 o2 o3 o4 nw am rk rw' rt rz rh rn' ro rd = some (0, r, z2, hid2, ks2, ws2, ts2, cn2, ct2, ch2, de2, rs, dt, ix, s1, s2, s3, s4, nw2, am2, rk2, rw2, rt2, rz2, rh2, rn2, ro2, rd2) ∧
    F_X8_toss fl un th a tr kp = some (r, un2, th2, a2, tr2, kp2) ∧ LL z2 hid2 ks2 ws2 ts2 cn2 ct2 ch2 a2 ∧ HR nw2 am2 rk2 rw2 rt2 rz2 rh2 rn2 ro2 rd2 un2 kp2 := by
  obtain ⟨kk, r, z2, hid2, ks2, ws2, ts2, cn2, ct2, ch2, de2, rs2, dt2, ix2, s1, s2, s3, s4, nw2, am2, rk2, rw2, rt2, rz2, rh2, rn2, ro2, rd2, b, un2, th2, a2, tr2, kp2, g7, ⟨g8, rfl, rfl, rfl⟩, hO, e0, e1⟩ := m_toss (fl := fl) (de := de) (th := th) (o1 := o1) (o2 := o2) (o3 := o3) (o4 := o4) (rs := rs) (dt := dt) (ix := ix) (tr := tr) (p1 := 0) (p2 := 0) (p3 := 0) hf hL hH
  have ht := toss_th hf g8
  rcases hO with ⟨rfl, -, rfl⟩ | ⟨-, q, -⟩
  · exact ⟨_, _, _, _, _, _, _, _, _, _, _, _, _, _, _, _, _, _, _, _, _, _, _, _, _, _, _, _, _, g7, g8, e0, e1⟩
  · rw [ht] at q; exact absurd q (by decide)
theorem lw_undo (hf : 2000 ≤ fl) (hL : LL z hid ks ws ts cn ct' ch a) (hH : HR nw am rk rw' rt rz rh rn' ro rd un kp) {out : Nat → Int64} : ∃ K z2 hid2 ks2 ws2 ts2 cn2 ct2 ch2 nw2 am2 b un2 th2 a2 out2, F_L_undo fl z hid ks ws ts cn ct' ch nw am rk rw' rt rz rh rn' ro rd out = some (K, z2, hid2, ks2, ws2, ts2, cn2, ct2, ch2, nw2, am2, out2) ∧ F_X8_undo fl un th a kp = some (b, un2, th2, a2) ∧ LO K out2 b th2 ∧ LL z2 hid2 ks2 ws2 ts2 cn2 ct2 ch2 a2 ∧ HR nw2 am2 rk rw' rt rz rh rn' ro rd un2 kp := by
  unfold F_L_undo
  rcases r_undo (fl := fl) (th := th) hf hL hH with ⟨g7, g8⟩ | ⟨r, z2, hid2, ks2, ws2, ts2, cn2, ct2, ch2, nw2, un2, a2, g7, g8, e0, e1⟩
  · rw [g7, bx12_e, if_neg (by decide), if_pos rfl]
    exact ⟨_, _, _, _, _, _, _, _, _, _, _, _, _, _, _, _, rfl, g8, ⟨rfl, fun h => absurd h (by decide)⟩, hL, hH⟩
  · rw [g7, bx12_e, if_pos rfl]
    exact ⟨_, _, _, _, _, _, _, _, _, _, _, _, _, _, _, _, rfl, g8, ⟨rfl, fun _ => lo0⟩, e0, e1⟩
theorem lw_restore (hf : 2000 ≤ fl) (hL : LL z hid ks ws ts cn ct' ch a) (hH : HR nw am rk rw' rt rz rh rn' ro rd un kp) {sv isv s1 s2 s6 s7 s8 : Int32} {s3 s4 s5 sa : Nat → Int32} (hS : SV sv s1 s2 s3 s4 s5 s6 s7 s8 isv sa) {out : Nat → Int64} : ∃ K z2 hid2 ks2 ws2 ts2 cn2 ct2 ch2 am2 b un2 th2 a2 out2, F_L_restore fl sv z hid ks ws ts cn ct' ch am s1 s2 s3 s4 s5 s6 s7 s8 out = some (K, z2, hid2, ks2, ws2, ts2, cn2, ct2, ch2, am2, out2) ∧ F_X8_restore fl un isv th a sa = some (b, un2, th2, a2) ∧ LO K out2 b th2 ∧ LL z2 hid2 ks2 ws2 ts2 cn2 ct2 ch2 a2 ∧ HR nw am2 rk rw' rt rz rh rn' ro rd un2 kp := by
  unfold F_L_restore
  rcases m_restore (fl := fl) (th := th) (u := un) (am := am) hf hL hS with ⟨g7, g8⟩ | ⟨r, z2, hid2, ks2, ws2, ts2, cn2, ct2, ch2, a2, g7, g8, e0⟩
  · rw [g7, bx11_e, if_neg (by decide), if_pos rfl]
    exact ⟨_, _, _, _, _, _, _, _, _, _, _, _, _, _, _, rfl, g8, ⟨rfl, fun h => absurd h (by decide)⟩, hL, hH⟩
  · rw [g7, bx11_e, if_pos rfl]
    obtain ⟨m, p, hm, hp, h1, -, -, -⟩ := hH
    exact ⟨_, _, _, _, _, _, _, _, _, _, _, _, _, _, _, rfl, g8, ⟨rfl, fun _ => lo0⟩, e0, 0, p, Nat.zero_le _, hp, h1, rfl, rfl, fun s hs => absurd hs (Nat.not_lt_zero s)⟩
theorem lw_nextRungs (hf : 2000 ≤ fl) (hL : LL z hid ks ws ts cn ct' ch a) : ∃ r a2, F_X7_nextRungs fl cn = some r ∧ F_X8_nextRungs fl th a = some (r, 0, a2) ∧ LL z hid ks ws ts cn ct' ch a2 := by
  obtain ⟨n, h0, h1, h2⟩ := hL
  obtain ⟨r, a2, e1, e2, e3⟩ := r_nextRungs (fl := fl) (thr := th) hf h2
  exact ⟨r, a2, e1, e2, n, h0, h1, e3⟩
theorem lw_isForgotten (hL : LL z hid ks ws ts cn ct' ch a) {out : Nat → Int64} : ∃ K b th2 out2, F_L_isForgotten fl hid out p1 = some (K, out2) ∧ F_X8_isForgotten fl th a p1 = some (b, th2) ∧ th2 = K ∧ (K = 0 → out2 0 = if b = 0 then 0 else 1) := by
  obtain ⟨kk, r, b, th2, g7, g8, hO⟩ := m_isForgotten (fl := fl) (th := th) (p1 := p1) hL
  unfold F_L_isForgotten
  rw [g7, bx2_e]
  rcases hO with ⟨rfl, rfl, rfl⟩ | ⟨rfl, rfl, rfl⟩
  · rw [if_pos rfl]
    by_cases c : b = 0
    · rw [if_pos c]
      exact ⟨_, _, _, _, rfl, g8, rfl, fun _ => by rw [if_pos c]; exact lo0⟩
    · rw [if_neg c]
      exact ⟨_, _, _, _, rfl, g8, rfl, fun _ => by rw [if_neg c]; exact lo0⟩
  · rw [if_neg (by decide), if_pos rfl]
    exact ⟨_, _, _, _, rfl, g8, rfl, fun h => absurd h (by decide)⟩
theorem vf0 {out : Nat → UInt64} {x : UInt64} : vf_upd out (0 : Int32).toNatClampNeg x 0 = x := if_pos rfl
theorem lw_meanSteps (hf : 2000 ≤ fl) (hL : LL z hid ks ws ts cn ct' ch a) {out : Nat → UInt64} : ∃ K y1 y2 y3 y4 y5 b th2 g2 f2 way2 out2, F_L_meanSteps fl z hid ks ts x1 x2 x3 x4 x5 out = some (K, y1, y2, y3, y4, y5, out2) ∧ F_X8_meanSteps fl th g f a way = some (b, th2, g2, f2, way2) ∧ th2 = K ∧ (K = 0 → out2 0 = b) := by
  obtain ⟨kk, r, y1, y2, y3, y4, y5, b, th2, g2, f2, way2, g7, g8, hO⟩ := m_meanSteps (fl := fl) (x1 := x1) (x2 := x2) (x3 := x3) (x4 := x4) (x5 := x5) (th := th) (g := g) (f := f) (way := way) hf hL
  unfold F_L_meanSteps
  rw [g7, bx7_e]
  rcases hO with ⟨rfl, rfl, rfl⟩ | ⟨rfl, rfl⟩
  · rw [if_pos rfl]
    exact ⟨_, _, _, _, _, _, _, _, _, _, _, _, rfl, g8, rfl, fun _ => vf0⟩
  · rw [if_neg (by decide), if_pos rfl]
    exact ⟨_, _, _, _, _, _, _, _, _, _, _, _, rfl, g8, rfl, fun h => absurd h (by decide)⟩
theorem okD_f2d {x : UInt32} (h : x.toNat % 2 ^ 31 < 255 * 2 ^ 23) : okD (FP.f2d x) = true := by
  have h1 : Jvm.FP.Core.fIsNaN x = false := by
    cases e : Jvm.FP.Core.fIsNaN x with
    | false => rfl
    | true => have := (Jvm.FP.Core.isNaN_bits32 x).mp e; omega
  have e2 : FP.f2d x = Jvm.FP.Core.f2d x := by
    unfold FP.f2d
    rw [h1]
    rfl
  have h2 : Jvm.FP.Core.dIsNaN (FP.f2d x) = false := by rw [e2]; exact Jvm.FP.Core.f2d_out h1
  have h3 : ¬ 9218868437227405312 < (FP.f2d x).toNat % 2 ^ 63 := fun q => by rw [(Jvm.FP.Core.isNaN_bits _).mpr q] at h2; cases h2
  refine decide_eq_true ?_
  rw [UInt64.le_iff_toNat_le, UInt64.toNat_and]
  rw [show (0x7fffffffffffffff : UInt64).toNat = 2 ^ 63 - 1 by decide, show (0x7ff0000000000000 : UInt64).toNat = 9218868437227405312 by decide, Nat.and_two_pow_sub_one_eq_mod]
  omega
theorem fdiv_fin {x y : Int32} (hy : y.toInt ≠ 0) : (FP.fdiv (FP.i2f x) (FP.i2f y)).toNat % 2 ^ 31 < 255 * 2 ^ 23 := by
  obtain ⟨h1, h2⟩ := Jvm.FP.Core.i2f_big hy
  exact Nat.lt_of_lt_of_le (Jvm.FP.Core.fdiv_mag (K := 160) (L := 127) (Jvm.FP.Core.i2f_mag x) h1 h2 (by decide) (by decide)) (by decide)
theorem lw_meanRungs (hf : 2000 ≤ fl) (hL : LL z hid ks ws ts cn ct' ch a) {out : Nat → UInt64} : ∃ K b th2 out2, F_L_meanRungs fl z ts out = some (K, out2) ∧ F_X8_meanRungs fl th a = some (b, th2) ∧ th2 = K ∧ (K = 0 → out2 0 = FP.f2d b ∧ okD (FP.f2d b) = true) := by
  obtain ⟨n, rfl, hl, hM⟩ := hL
  have hn := hl.1
  obtain ⟨v, a1, a2⟩ := q_all (fl := fl) hn hf hM
  unfold F_L_meanRungs F_X7_meanRungs F_X8_meanRungs F_X3_size F_X8_raises
  rw [bn_e, a1, a2, gl0, c0, hM.1]
  by_cases n0 : n = 0
  · subst n0
    rw [if_pos nI_0, if_pos nI_0, bn2_e, bx2_e, if_neg (by decide), if_pos rfl]
    exact ⟨_, _, _, _, rfl, rfl, rfl, fun h => absurd h (by decide)⟩
  · have hy : (nI n).toInt ≠ 0 := by rw [nI_toInt (by omega)]; omega
    have ok : okF (FP.fdiv (FP.i2f v) (FP.i2f (nI n))) = true := okF_div hy
    have ok2 : okD (FP.f2d (FP.fdiv (FP.i2f v) (FP.i2f (nI n)))) = true := okD_f2d (fdiv_fin hy)
    rw [if_neg (nI_ne0 (by omega) (by omega)), if_neg (nI_ne0 (by omega) (by omega)), bn_e, bn_e, bn_e, gl0, gd_e ok, gd_e ok, bx2_e, if_pos rfl, gd_e ok2]
    exact ⟨_, _, _, _, rfl, rfl, rfl, fun _ => ⟨vf0, ok2⟩⟩
