/-! the nine changes, over ghosts -/
variable {n : Nat} {ks ws ts a : Nat → Int32} {key lev hid cn ct' ch z : Int32} {k w we ru rs dt ix an d0 sg no de o1 o2 o3 o4 p1 p2 p3 : Int32}
variable {nw am : Int32} {rk rw' rt : Nat → Nat → Int32} {rz rh rn' ro rd : Nat → Int32} {us : List Lad}
theorem N_file (hL : LL z hid ks ws ts cn ct' ch a) (hG : GL (NRM z hid ks ws ts cn ct' ch)) (hH : HU nw am rk rw' rt rz rh rn' ro rd us) : ∃ kk r z2 hid2 ks2 ws2 ts2 cn2 ct2 ch2 de2 rs2 dt2 ix2 s1 s2 s3 s4 nw2 am2 rk2 rw2 rt2 rz2 rh2 rn2 ro2 rd2, F_X7_file 2000 z hid ks ws ts cn ct' ch de rs dt ix o1 o2 o3 o4 nw am rk rw' rt rz rh rn' ro rd p1 p2 = some (kk, r, z2, hid2, ks2, ws2, ts2, cn2, ct2, ch2, de2, rs2, dt2, ix2, s1, s2, s3, s4, nw2, am2, rk2, rw2, rt2, rz2, rh2, rn2, ro2, rd2) ∧ (∃ a2, LL z2 hid2 ks2 ws2 ts2 cn2 ct2 ch2 a2) ∧ GL (NRM z2 hid2 ks2 ws2 ts2 cn2 ct2 ch2) ∧ ((kk = 4 ∧ r = 0 ∧ (ordR (NRM z hid ks ws ts cn ct' ch) 43 p1 p2 1).1 ≠ 0 ∧ (NRM z2 hid2 ks2 ws2 ts2 cn2 ct2 ch2) = (NRM z hid ks ws ts cn ct' ch) ∧ rs2 = (ordR (NRM z hid ks ws ts cn ct' ch) 43 p1 p2 1).1 ∧ dt2 = (ordR (NRM z hid ks ws ts cn ct' ch) 43 p1 p2 1).2 ∧ ix2 = 0 ∧ HU nw2 am2 rk2 rw2 rt2 rz2 rh2 rn2 ro2 rd2 us) ∨ (kk = 0 ∧ r = (ordC (NRM z hid ks ws ts cn ct' ch) 43 p1 p2 1).1 ∧ 0 ≤ r ∧ (ordR (NRM z hid ks ws ts cn ct' ch) 43 p1 p2 1).1 = 0 ∧ (NRM z2 hid2 ks2 ws2 ts2 cn2 ct2 ch2) = (ordC (NRM z hid ks ws ts cn ct' ch) 43 p1 p2 1).2 ∧ rs2 = rs ∧ dt2 = dt ∧ ix2 = ix ∧ HU nw2 am2 rk2 rw2 rt2 rz2 rh2 rn2 ro2 rd2 (push (NRM z hid ks ws ts cn ct' ch) us))) := by
  have hL0 := LL_cut hL
  obtain ⟨n, rfl, hl, hM⟩ := hL
  obtain ⟨n2, en, hl2, hM2⟩ := hL0
  have hn := hl.1
  have hn2 := hl2.1
  obtain rfl : n = n2 := (nI_eq (by omega) (by omega)).mp en
  obtain ⟨kk, r, z2, hid2, ks2, ws2, ts2, cn2, ct2, ch2, de2, rs2, dt2, ix2, nw2, am2, rk2, rw2, rt2, rz2, rh2, rn2, ro2, rd2, e1, e2, e3, e4⟩ := n_change (de := de) (rs := rs) (dt := dt) (ix := ix) hl hM hG hH (k_file (Nat.le_refl 2000) hl hM : CK 2000 n hid ks ws ts cn ct' ch 43 p1 p2 1) (r_file (x3 := 0) (Nat.le_refl 2000) hl hM : CM 2000 n hid ks ws ts cn ct' ch 43 p1 p2 1 0 0 0 0 a _) (r_file (x3 := 0) (Nat.le_refl 2000) hl2 hM2 : CM 2000 n hid (cut (nI n) ks) (cut (nI n) ws) (cut (nI n) ts) cn ct' ch 43 p1 p2 1 0 0 0 0 a _)
  refine ⟨kk, r, z2, hid2, ks2, ws2, ts2, cn2, ct2, ch2, de2, rs2, dt2, ix2, 43, p1, p2, 1, nw2, am2, rk2, rw2, rt2, rz2, rh2, rn2, ro2, rd2, ?_, e2, e3, e4⟩
  unfold F_X7_file F_X4_tell
  rw [gd_e (by decide), bn4_e, e1, bn24_e]
  rcases e4 with ⟨rfl, rfl, -⟩ | ⟨rfl, -⟩
  · rw [if_neg (by decide)]
  · rw [if_pos rfl]
theorem N_fileTall (hL : LL z hid ks ws ts cn ct' ch a) (hG : GL (NRM z hid ks ws ts cn ct' ch)) (hH : HU nw am rk rw' rt rz rh rn' ro rd us) : ∃ kk r z2 hid2 ks2 ws2 ts2 cn2 ct2 ch2 de2 rs2 dt2 ix2 s1 s2 s3 s4 nw2 am2 rk2 rw2 rt2 rz2 rh2 rn2 ro2 rd2, F_X7_fileTall 2000 z hid ks ws ts cn ct' ch de rs dt ix o1 o2 o3 o4 nw am rk rw' rt rz rh rn' ro rd p1 p2 p3 = some (kk, r, z2, hid2, ks2, ws2, ts2, cn2, ct2, ch2, de2, rs2, dt2, ix2, s1, s2, s3, s4, nw2, am2, rk2, rw2, rt2, rz2, rh2, rn2, ro2, rd2) ∧ (∃ a2, LL z2 hid2 ks2 ws2 ts2 cn2 ct2 ch2 a2) ∧ GL (NRM z2 hid2 ks2 ws2 ts2 cn2 ct2 ch2) ∧ ((kk = 4 ∧ r = 0 ∧ (ordR (NRM z hid ks ws ts cn ct' ch) 94 p1 p2 p3).1 ≠ 0 ∧ (NRM z2 hid2 ks2 ws2 ts2 cn2 ct2 ch2) = (NRM z hid ks ws ts cn ct' ch) ∧ rs2 = (ordR (NRM z hid ks ws ts cn ct' ch) 94 p1 p2 p3).1 ∧ dt2 = (ordR (NRM z hid ks ws ts cn ct' ch) 94 p1 p2 p3).2 ∧ ix2 = 0 ∧ HU nw2 am2 rk2 rw2 rt2 rz2 rh2 rn2 ro2 rd2 us) ∨ (kk = 0 ∧ r = (ordC (NRM z hid ks ws ts cn ct' ch) 94 p1 p2 p3).1 ∧ 0 ≤ r ∧ (ordR (NRM z hid ks ws ts cn ct' ch) 94 p1 p2 p3).1 = 0 ∧ (NRM z2 hid2 ks2 ws2 ts2 cn2 ct2 ch2) = (ordC (NRM z hid ks ws ts cn ct' ch) 94 p1 p2 p3).2 ∧ rs2 = rs ∧ dt2 = dt ∧ ix2 = ix ∧ HU nw2 am2 rk2 rw2 rt2 rz2 rh2 rn2 ro2 rd2 (push (NRM z hid ks ws ts cn ct' ch) us))) := by
  have hL0 := LL_cut hL
  obtain ⟨n, rfl, hl, hM⟩ := hL
  obtain ⟨n2, en, hl2, hM2⟩ := hL0
  have hn := hl.1
  have hn2 := hl2.1
  obtain rfl : n = n2 := (nI_eq (by omega) (by omega)).mp en
  obtain ⟨kk, r, z2, hid2, ks2, ws2, ts2, cn2, ct2, ch2, de2, rs2, dt2, ix2, nw2, am2, rk2, rw2, rt2, rz2, rh2, rn2, ro2, rd2, e1, e2, e3, e4⟩ := n_change (de := de) (rs := rs) (dt := dt) (ix := ix) hl hM hG hH (k_fileTall (Nat.le_refl 2000) hl : CK 2000 n hid ks ws ts cn ct' ch 94 p1 p2 p3) (r_fileTall (Nat.le_refl 2000) hl hM : CM 2000 n hid ks ws ts cn ct' ch 94 p1 p2 p3 0 0 0 0 a _) (r_fileTall (Nat.le_refl 2000) hl2 hM2 : CM 2000 n hid (cut (nI n) ks) (cut (nI n) ws) (cut (nI n) ts) cn ct' ch 94 p1 p2 p3 0 0 0 0 a _)
  refine ⟨kk, r, z2, hid2, ks2, ws2, ts2, cn2, ct2, ch2, de2, rs2, dt2, ix2, 94, p1, p2, p3, nw2, am2, rk2, rw2, rt2, rz2, rh2, rn2, ro2, rd2, ?_, e2, e3, e4⟩
  unfold F_X7_fileTall F_X4_tell
  rw [gd_e (by decide), bn4_e, e1, bn24_e]
  rcases e4 with ⟨rfl, rfl, -⟩ | ⟨rfl, -⟩
  · rw [if_neg (by decide)]
  · rw [if_pos rfl]
theorem N_drop (hL : LL z hid ks ws ts cn ct' ch a) (hG : GL (NRM z hid ks ws ts cn ct' ch)) (hH : HU nw am rk rw' rt rz rh rn' ro rd us) : ∃ kk r z2 hid2 ks2 ws2 ts2 cn2 ct2 ch2 de2 rs2 dt2 ix2 s1 s2 s3 s4 nw2 am2 rk2 rw2 rt2 rz2 rh2 rn2 ro2 rd2, F_X7_drop 2000 z hid ks ws ts cn ct' ch de rs dt ix o1 o2 o3 o4 nw am rk rw' rt rz rh rn' ro rd p1 = some (kk, r, z2, hid2, ks2, ws2, ts2, cn2, ct2, ch2, de2, rs2, dt2, ix2, s1, s2, s3, s4, nw2, am2, rk2, rw2, rt2, rz2, rh2, rn2, ro2, rd2) ∧ (∃ a2, LL z2 hid2 ks2 ws2 ts2 cn2 ct2 ch2 a2) ∧ GL (NRM z2 hid2 ks2 ws2 ts2 cn2 ct2 ch2) ∧ ((kk = 4 ∧ r = 0 ∧ (ordR (NRM z hid ks ws ts cn ct' ch) 45 p1 0 1).1 ≠ 0 ∧ (NRM z2 hid2 ks2 ws2 ts2 cn2 ct2 ch2) = (NRM z hid ks ws ts cn ct' ch) ∧ rs2 = (ordR (NRM z hid ks ws ts cn ct' ch) 45 p1 0 1).1 ∧ dt2 = (ordR (NRM z hid ks ws ts cn ct' ch) 45 p1 0 1).2 ∧ ix2 = 0 ∧ HU nw2 am2 rk2 rw2 rt2 rz2 rh2 rn2 ro2 rd2 us) ∨ (kk = 0 ∧ r = (ordC (NRM z hid ks ws ts cn ct' ch) 45 p1 0 1).1 ∧ 0 ≤ r ∧ (ordR (NRM z hid ks ws ts cn ct' ch) 45 p1 0 1).1 = 0 ∧ (NRM z2 hid2 ks2 ws2 ts2 cn2 ct2 ch2) = (ordC (NRM z hid ks ws ts cn ct' ch) 45 p1 0 1).2 ∧ rs2 = rs ∧ dt2 = dt ∧ ix2 = ix ∧ HU nw2 am2 rk2 rw2 rt2 rz2 rh2 rn2 ro2 rd2 (push (NRM z hid ks ws ts cn ct' ch) us))) := by
  have hL0 := LL_cut hL
  obtain ⟨n, rfl, hl, hM⟩ := hL
  obtain ⟨n2, en, hl2, hM2⟩ := hL0
  have hn := hl.1
  have hn2 := hl2.1
  obtain rfl : n = n2 := (nI_eq (by omega) (by omega)).mp en
  obtain ⟨kk, r, z2, hid2, ks2, ws2, ts2, cn2, ct2, ch2, de2, rs2, dt2, ix2, nw2, am2, rk2, rw2, rt2, rz2, rh2, rn2, ro2, rd2, e1, e2, e3, e4⟩ := n_change (de := de) (rs := rs) (dt := dt) (ix := ix) hl hM hG hH (k_drop (Nat.le_refl 2000) hl : CK 2000 n hid ks ws ts cn ct' ch 45 p1 0 1) (r_drop (Nat.le_refl 2000) hl hM (show inR 0 99 0 = true by decide) : CM 2000 n hid ks ws ts cn ct' ch 45 p1 0 1 0 0 0 0 a _) (r_drop (Nat.le_refl 2000) hl2 hM2 (show inR 0 99 0 = true by decide) : CM 2000 n hid (cut (nI n) ks) (cut (nI n) ws) (cut (nI n) ts) cn ct' ch 45 p1 0 1 0 0 0 0 a _)
  refine ⟨kk, r, z2, hid2, ks2, ws2, ts2, cn2, ct2, ch2, de2, rs2, dt2, ix2, 45, p1, 0, 1, nw2, am2, rk2, rw2, rt2, rz2, rh2, rn2, ro2, rd2, ?_, e2, e3, e4⟩
  unfold F_X7_drop F_X4_tell
  rw [gd_e (by decide), bn4_e, e1, bn24_e]
  rcases e4 with ⟨rfl, rfl, -⟩ | ⟨rfl, -⟩
  · rw [if_neg (by decide)]
  · rw [if_pos rfl]
theorem N_raise (hL : LL z hid ks ws ts cn ct' ch a) (hG : GL (NRM z hid ks ws ts cn ct' ch)) (hH : HU nw am rk rw' rt rz rh rn' ro rd us) : ∃ kk r z2 hid2 ks2 ws2 ts2 cn2 ct2 ch2 de2 rs2 dt2 ix2 s1 s2 s3 s4 nw2 am2 rk2 rw2 rt2 rz2 rh2 rn2 ro2 rd2, F_X7_raise 2000 z hid ks ws ts cn ct' ch de rs dt ix o1 o2 o3 o4 nw am rk rw' rt rz rh rn' ro rd p1 = some (kk, r, z2, hid2, ks2, ws2, ts2, cn2, ct2, ch2, de2, rs2, dt2, ix2, s1, s2, s3, s4, nw2, am2, rk2, rw2, rt2, rz2, rh2, rn2, ro2, rd2) ∧ (∃ a2, LL z2 hid2 ks2 ws2 ts2 cn2 ct2 ch2 a2) ∧ GL (NRM z2 hid2 ks2 ws2 ts2 cn2 ct2 ch2) ∧ ((kk = 4 ∧ r = 0 ∧ (ordR (NRM z hid ks ws ts cn ct' ch) 117 p1 0 1).1 ≠ 0 ∧ (NRM z2 hid2 ks2 ws2 ts2 cn2 ct2 ch2) = (NRM z hid ks ws ts cn ct' ch) ∧ rs2 = (ordR (NRM z hid ks ws ts cn ct' ch) 117 p1 0 1).1 ∧ dt2 = (ordR (NRM z hid ks ws ts cn ct' ch) 117 p1 0 1).2 ∧ ix2 = 0 ∧ HU nw2 am2 rk2 rw2 rt2 rz2 rh2 rn2 ro2 rd2 us) ∨ (kk = 0 ∧ r = (ordC (NRM z hid ks ws ts cn ct' ch) 117 p1 0 1).1 ∧ 0 ≤ r ∧ (ordR (NRM z hid ks ws ts cn ct' ch) 117 p1 0 1).1 = 0 ∧ (NRM z2 hid2 ks2 ws2 ts2 cn2 ct2 ch2) = (ordC (NRM z hid ks ws ts cn ct' ch) 117 p1 0 1).2 ∧ rs2 = rs ∧ dt2 = dt ∧ ix2 = ix ∧ HU nw2 am2 rk2 rw2 rt2 rz2 rh2 rn2 ro2 rd2 (push (NRM z hid ks ws ts cn ct' ch) us))) := by
  have hL0 := LL_cut hL
  obtain ⟨n, rfl, hl, hM⟩ := hL
  obtain ⟨n2, en, hl2, hM2⟩ := hL0
  have hn := hl.1
  have hn2 := hl2.1
  obtain rfl : n = n2 := (nI_eq (by omega) (by omega)).mp en
  obtain ⟨kk, r, z2, hid2, ks2, ws2, ts2, cn2, ct2, ch2, de2, rs2, dt2, ix2, nw2, am2, rk2, rw2, rt2, rz2, rh2, rn2, ro2, rd2, e1, e2, e3, e4⟩ := n_change (de := de) (rs := rs) (dt := dt) (ix := ix) hl hM hG hH (k_raise (Nat.le_refl 2000) hl : CK 2000 n hid ks ws ts cn ct' ch 117 p1 0 1) (r_raise (Nat.le_refl 2000) hl hM (show inR 0 99 0 = true by decide) : CM 2000 n hid ks ws ts cn ct' ch 117 p1 0 1 0 0 0 0 a _) (r_raise (Nat.le_refl 2000) hl2 hM2 (show inR 0 99 0 = true by decide) : CM 2000 n hid (cut (nI n) ks) (cut (nI n) ws) (cut (nI n) ts) cn ct' ch 117 p1 0 1 0 0 0 0 a _)
  refine ⟨kk, r, z2, hid2, ks2, ws2, ts2, cn2, ct2, ch2, de2, rs2, dt2, ix2, 117, p1, 0, 1, nw2, am2, rk2, rw2, rt2, rz2, rh2, rn2, ro2, rd2, ?_, e2, e3, e4⟩
  unfold F_X7_raise F_X4_tell
  rw [gd_e (by decide), bn4_e, e1, bn24_e]
  rcases e4 with ⟨rfl, rfl, -⟩ | ⟨rfl, -⟩
  · rw [if_neg (by decide)]
  · rw [if_pos rfl]
theorem N_lower (hL : LL z hid ks ws ts cn ct' ch a) (hG : GL (NRM z hid ks ws ts cn ct' ch)) (hH : HU nw am rk rw' rt rz rh rn' ro rd us) : ∃ kk r z2 hid2 ks2 ws2 ts2 cn2 ct2 ch2 de2 rs2 dt2 ix2 s1 s2 s3 s4 nw2 am2 rk2 rw2 rt2 rz2 rh2 rn2 ro2 rd2, F_X7_lower 2000 z hid ks ws ts cn ct' ch de rs dt ix o1 o2 o3 o4 nw am rk rw' rt rz rh rn' ro rd p1 = some (kk, r, z2, hid2, ks2, ws2, ts2, cn2, ct2, ch2, de2, rs2, dt2, ix2, s1, s2, s3, s4, nw2, am2, rk2, rw2, rt2, rz2, rh2, rn2, ro2, rd2) ∧ (∃ a2, LL z2 hid2 ks2 ws2 ts2 cn2 ct2 ch2 a2) ∧ GL (NRM z2 hid2 ks2 ws2 ts2 cn2 ct2 ch2) ∧ ((kk = 4 ∧ r = 0 ∧ (ordR (NRM z hid ks ws ts cn ct' ch) 100 p1 0 1).1 ≠ 0 ∧ (NRM z2 hid2 ks2 ws2 ts2 cn2 ct2 ch2) = (NRM z hid ks ws ts cn ct' ch) ∧ rs2 = (ordR (NRM z hid ks ws ts cn ct' ch) 100 p1 0 1).1 ∧ dt2 = (ordR (NRM z hid ks ws ts cn ct' ch) 100 p1 0 1).2 ∧ ix2 = 0 ∧ HU nw2 am2 rk2 rw2 rt2 rz2 rh2 rn2 ro2 rd2 us) ∨ (kk = 0 ∧ r = (ordC (NRM z hid ks ws ts cn ct' ch) 100 p1 0 1).1 ∧ 0 ≤ r ∧ (ordR (NRM z hid ks ws ts cn ct' ch) 100 p1 0 1).1 = 0 ∧ (NRM z2 hid2 ks2 ws2 ts2 cn2 ct2 ch2) = (ordC (NRM z hid ks ws ts cn ct' ch) 100 p1 0 1).2 ∧ rs2 = rs ∧ dt2 = dt ∧ ix2 = ix ∧ HU nw2 am2 rk2 rw2 rt2 rz2 rh2 rn2 ro2 rd2 (push (NRM z hid ks ws ts cn ct' ch) us))) := by
  have hL0 := LL_cut hL
  obtain ⟨n, rfl, hl, hM⟩ := hL
  obtain ⟨n2, en, hl2, hM2⟩ := hL0
  have hn := hl.1
  have hn2 := hl2.1
  obtain rfl : n = n2 := (nI_eq (by omega) (by omega)).mp en
  obtain ⟨kk, r, z2, hid2, ks2, ws2, ts2, cn2, ct2, ch2, de2, rs2, dt2, ix2, nw2, am2, rk2, rw2, rt2, rz2, rh2, rn2, ro2, rd2, e1, e2, e3, e4⟩ := n_change (de := de) (rs := rs) (dt := dt) (ix := ix) hl hM hG hH (k_lower (Nat.le_refl 2000) hl : CK 2000 n hid ks ws ts cn ct' ch 100 p1 0 1) (r_lower (Nat.le_refl 2000) hl hM (show inR 0 99 0 = true by decide) : CM 2000 n hid ks ws ts cn ct' ch 100 p1 0 1 0 0 0 0 a _) (r_lower (Nat.le_refl 2000) hl2 hM2 (show inR 0 99 0 = true by decide) : CM 2000 n hid (cut (nI n) ks) (cut (nI n) ws) (cut (nI n) ts) cn ct' ch 100 p1 0 1 0 0 0 0 a _)
  refine ⟨kk, r, z2, hid2, ks2, ws2, ts2, cn2, ct2, ch2, de2, rs2, dt2, ix2, 100, p1, 0, 1, nw2, am2, rk2, rw2, rt2, rz2, rh2, rn2, ro2, rd2, ?_, e2, e3, e4⟩
  unfold F_X7_lower F_X4_tell
  rw [gd_e (by decide), bn4_e, e1, bn24_e]
  rcases e4 with ⟨rfl, rfl, -⟩ | ⟨rfl, -⟩
  · rw [if_neg (by decide)]
  · rw [if_pos rfl]
theorem N_forget (hL : LL z hid ks ws ts cn ct' ch a) (hG : GL (NRM z hid ks ws ts cn ct' ch)) (hH : HU nw am rk rw' rt rz rh rn' ro rd us) : ∃ kk r z2 hid2 ks2 ws2 ts2 cn2 ct2 ch2 de2 rs2 dt2 ix2 s1 s2 s3 s4 nw2 am2 rk2 rw2 rt2 rz2 rh2 rn2 ro2 rd2, F_X7_forget 2000 z hid ks ws ts cn ct' ch de rs dt ix o1 o2 o3 o4 nw am rk rw' rt rz rh rn' ro rd p1 = some (kk, r, z2, hid2, ks2, ws2, ts2, cn2, ct2, ch2, de2, rs2, dt2, ix2, s1, s2, s3, s4, nw2, am2, rk2, rw2, rt2, rz2, rh2, rn2, ro2, rd2) ∧ (∃ a2, LL z2 hid2 ks2 ws2 ts2 cn2 ct2 ch2 a2) ∧ GL (NRM z2 hid2 ks2 ws2 ts2 cn2 ct2 ch2) ∧ ((kk = 4 ∧ r = 0 ∧ (ordR (NRM z hid ks ws ts cn ct' ch) 102 p1 0 1).1 ≠ 0 ∧ (NRM z2 hid2 ks2 ws2 ts2 cn2 ct2 ch2) = (NRM z hid ks ws ts cn ct' ch) ∧ rs2 = (ordR (NRM z hid ks ws ts cn ct' ch) 102 p1 0 1).1 ∧ dt2 = (ordR (NRM z hid ks ws ts cn ct' ch) 102 p1 0 1).2 ∧ ix2 = 0 ∧ HU nw2 am2 rk2 rw2 rt2 rz2 rh2 rn2 ro2 rd2 us) ∨ (kk = 0 ∧ r = (ordC (NRM z hid ks ws ts cn ct' ch) 102 p1 0 1).1 ∧ 0 ≤ r ∧ (ordR (NRM z hid ks ws ts cn ct' ch) 102 p1 0 1).1 = 0 ∧ (NRM z2 hid2 ks2 ws2 ts2 cn2 ct2 ch2) = (ordC (NRM z hid ks ws ts cn ct' ch) 102 p1 0 1).2 ∧ rs2 = rs ∧ dt2 = dt ∧ ix2 = ix ∧ HU nw2 am2 rk2 rw2 rt2 rz2 rh2 rn2 ro2 rd2 (push (NRM z hid ks ws ts cn ct' ch) us))) := by
  have hL0 := LL_cut hL
  obtain ⟨n, rfl, hl, hM⟩ := hL
  obtain ⟨n2, en, hl2, hM2⟩ := hL0
  have hn := hl.1
  have hn2 := hl2.1
  obtain rfl : n = n2 := (nI_eq (by omega) (by omega)).mp en
  obtain ⟨kk, r, z2, hid2, ks2, ws2, ts2, cn2, ct2, ch2, de2, rs2, dt2, ix2, nw2, am2, rk2, rw2, rt2, rz2, rh2, rn2, ro2, rd2, e1, e2, e3, e4⟩ := n_change (de := de) (rs := rs) (dt := dt) (ix := ix) hl hM hG hH (k_forget (Nat.le_refl 2000) hl : CK 2000 n hid ks ws ts cn ct' ch 102 p1 0 1) (r_forget (Nat.le_refl 2000) hl hM : CM 2000 n hid ks ws ts cn ct' ch 102 p1 0 1 0 0 0 0 a _) (r_forget (Nat.le_refl 2000) hl2 hM2 : CM 2000 n hid (cut (nI n) ks) (cut (nI n) ws) (cut (nI n) ts) cn ct' ch 102 p1 0 1 0 0 0 0 a _)
  refine ⟨kk, r, z2, hid2, ks2, ws2, ts2, cn2, ct2, ch2, de2, rs2, dt2, ix2, 102, p1, 0, 1, nw2, am2, rk2, rw2, rt2, rz2, rh2, rn2, ro2, rd2, ?_, e2, e3, e4⟩
  unfold F_X7_forget F_X4_tell
  rw [gd_e (by decide), bn4_e, e1, bn24_e]
  rcases e4 with ⟨rfl, rfl, -⟩ | ⟨rfl, -⟩
  · rw [if_neg (by decide)]
  · rw [if_pos rfl]
theorem N_recall (hL : LL z hid ks ws ts cn ct' ch a) (hG : GL (NRM z hid ks ws ts cn ct' ch)) (hH : HU nw am rk rw' rt rz rh rn' ro rd us) : ∃ kk r z2 hid2 ks2 ws2 ts2 cn2 ct2 ch2 de2 rs2 dt2 ix2 s1 s2 s3 s4 nw2 am2 rk2 rw2 rt2 rz2 rh2 rn2 ro2 rd2, F_X7_recall 2000 z hid ks ws ts cn ct' ch de rs dt ix o1 o2 o3 o4 nw am rk rw' rt rz rh rn' ro rd p1 = some (kk, r, z2, hid2, ks2, ws2, ts2, cn2, ct2, ch2, de2, rs2, dt2, ix2, s1, s2, s3, s4, nw2, am2, rk2, rw2, rt2, rz2, rh2, rn2, ro2, rd2) ∧ (∃ a2, LL z2 hid2 ks2 ws2 ts2 cn2 ct2 ch2 a2) ∧ GL (NRM z2 hid2 ks2 ws2 ts2 cn2 ct2 ch2) ∧ ((kk = 4 ∧ r = 0 ∧ (ordR (NRM z hid ks ws ts cn ct' ch) 114 p1 0 1).1 ≠ 0 ∧ (NRM z2 hid2 ks2 ws2 ts2 cn2 ct2 ch2) = (NRM z hid ks ws ts cn ct' ch) ∧ rs2 = (ordR (NRM z hid ks ws ts cn ct' ch) 114 p1 0 1).1 ∧ dt2 = (ordR (NRM z hid ks ws ts cn ct' ch) 114 p1 0 1).2 ∧ ix2 = 0 ∧ HU nw2 am2 rk2 rw2 rt2 rz2 rh2 rn2 ro2 rd2 us) ∨ (kk = 0 ∧ r = (ordC (NRM z hid ks ws ts cn ct' ch) 114 p1 0 1).1 ∧ 0 ≤ r ∧ (ordR (NRM z hid ks ws ts cn ct' ch) 114 p1 0 1).1 = 0 ∧ (NRM z2 hid2 ks2 ws2 ts2 cn2 ct2 ch2) = (ordC (NRM z hid ks ws ts cn ct' ch) 114 p1 0 1).2 ∧ rs2 = rs ∧ dt2 = dt ∧ ix2 = ix ∧ HU nw2 am2 rk2 rw2 rt2 rz2 rh2 rn2 ro2 rd2 (push (NRM z hid ks ws ts cn ct' ch) us))) := by
  have hL0 := LL_cut hL
  obtain ⟨n, rfl, hl, hM⟩ := hL
  obtain ⟨n2, en, hl2, hM2⟩ := hL0
  have hn := hl.1
  have hn2 := hl2.1
  obtain rfl : n = n2 := (nI_eq (by omega) (by omega)).mp en
  obtain ⟨kk, r, z2, hid2, ks2, ws2, ts2, cn2, ct2, ch2, de2, rs2, dt2, ix2, nw2, am2, rk2, rw2, rt2, rz2, rh2, rn2, ro2, rd2, e1, e2, e3, e4⟩ := n_change (de := de) (rs := rs) (dt := dt) (ix := ix) hl hM hG hH (k_recall (Nat.le_refl 2000) hl : CK 2000 n hid ks ws ts cn ct' ch 114 p1 0 1) (r_recall (Nat.le_refl 2000) hl hM : CM 2000 n hid ks ws ts cn ct' ch 114 p1 0 1 0 0 0 0 a _) (r_recall (Nat.le_refl 2000) hl2 hM2 : CM 2000 n hid (cut (nI n) ks) (cut (nI n) ws) (cut (nI n) ts) cn ct' ch 114 p1 0 1 0 0 0 0 a _)
  refine ⟨kk, r, z2, hid2, ks2, ws2, ts2, cn2, ct2, ch2, de2, rs2, dt2, ix2, 114, p1, 0, 1, nw2, am2, rk2, rw2, rt2, rz2, rh2, rn2, ro2, rd2, ?_, e2, e3, e4⟩
  unfold F_X7_recall F_X4_tell
  rw [gd_e (by decide), bn4_e, e1, bn24_e]
  rcases e4 with ⟨rfl, rfl, -⟩ | ⟨rfl, -⟩
  · rw [if_neg (by decide)]
  · rw [if_pos rfl]
theorem N_weigh (hL : LL z hid ks ws ts cn ct' ch a) (hG : GL (NRM z hid ks ws ts cn ct' ch)) (hH : HU nw am rk rw' rt rz rh rn' ro rd us) : ∃ kk r z2 hid2 ks2 ws2 ts2 cn2 ct2 ch2 de2 rs2 dt2 ix2 s1 s2 s3 s4 nw2 am2 rk2 rw2 rt2 rz2 rh2 rn2 ro2 rd2, F_X7_weigh 2000 z hid ks ws ts cn ct' ch de rs dt ix o1 o2 o3 o4 nw am rk rw' rt rz rh rn' ro rd p1 p2 = some (kk, r, z2, hid2, ks2, ws2, ts2, cn2, ct2, ch2, de2, rs2, dt2, ix2, s1, s2, s3, s4, nw2, am2, rk2, rw2, rt2, rz2, rh2, rn2, ro2, rd2) ∧ (∃ a2, LL z2 hid2 ks2 ws2 ts2 cn2 ct2 ch2 a2) ∧ GL (NRM z2 hid2 ks2 ws2 ts2 cn2 ct2 ch2) ∧ ((kk = 4 ∧ r = 0 ∧ (ordR (NRM z hid ks ws ts cn ct' ch) 119 p1 p2 1).1 ≠ 0 ∧ (NRM z2 hid2 ks2 ws2 ts2 cn2 ct2 ch2) = (NRM z hid ks ws ts cn ct' ch) ∧ rs2 = (ordR (NRM z hid ks ws ts cn ct' ch) 119 p1 p2 1).1 ∧ dt2 = (ordR (NRM z hid ks ws ts cn ct' ch) 119 p1 p2 1).2 ∧ ix2 = 0 ∧ HU nw2 am2 rk2 rw2 rt2 rz2 rh2 rn2 ro2 rd2 us) ∨ (kk = 0 ∧ r = (ordC (NRM z hid ks ws ts cn ct' ch) 119 p1 p2 1).1 ∧ 0 ≤ r ∧ (ordR (NRM z hid ks ws ts cn ct' ch) 119 p1 p2 1).1 = 0 ∧ (NRM z2 hid2 ks2 ws2 ts2 cn2 ct2 ch2) = (ordC (NRM z hid ks ws ts cn ct' ch) 119 p1 p2 1).2 ∧ rs2 = rs ∧ dt2 = dt ∧ ix2 = ix ∧ HU nw2 am2 rk2 rw2 rt2 rz2 rh2 rn2 ro2 rd2 (push (NRM z hid ks ws ts cn ct' ch) us))) := by
  have hL0 := LL_cut hL
  obtain ⟨n, rfl, hl, hM⟩ := hL
  obtain ⟨n2, en, hl2, hM2⟩ := hL0
  have hn := hl.1
  have hn2 := hl2.1
  obtain rfl : n = n2 := (nI_eq (by omega) (by omega)).mp en
  obtain ⟨kk, r, z2, hid2, ks2, ws2, ts2, cn2, ct2, ch2, de2, rs2, dt2, ix2, nw2, am2, rk2, rw2, rt2, rz2, rh2, rn2, ro2, rd2, e1, e2, e3, e4⟩ := n_change (de := de) (rs := rs) (dt := dt) (ix := ix) hl hM hG hH (k_weigh (Nat.le_refl 2000) hl : CK 2000 n hid ks ws ts cn ct' ch 119 p1 p2 1) (r_weigh (Nat.le_refl 2000) hl hM : CM 2000 n hid ks ws ts cn ct' ch 119 p1 p2 1 0 0 0 0 a _) (r_weigh (Nat.le_refl 2000) hl2 hM2 : CM 2000 n hid (cut (nI n) ks) (cut (nI n) ws) (cut (nI n) ts) cn ct' ch 119 p1 p2 1 0 0 0 0 a _)
  refine ⟨kk, r, z2, hid2, ks2, ws2, ts2, cn2, ct2, ch2, de2, rs2, dt2, ix2, 119, p1, p2, 1, nw2, am2, rk2, rw2, rt2, rz2, rh2, rn2, ro2, rd2, ?_, e2, e3, e4⟩
  unfold F_X7_weigh F_X4_tell
  rw [gd_e (by decide), bn4_e, e1, bn24_e]
  rcases e4 with ⟨rfl, rfl, -⟩ | ⟨rfl, -⟩
  · rw [if_neg (by decide)]
  · rw [if_pos rfl]
theorem N_toss (hL : LL z hid ks ws ts cn ct' ch a) (hG : GL (NRM z hid ks ws ts cn ct' ch)) (hH : HU nw am rk rw' rt rz rh rn' ro rd us) : ∃ kk r z2 hid2 ks2 ws2 ts2 cn2 ct2 ch2 de2 rs2 dt2 ix2 s1 s2 s3 s4 nw2 am2 rk2 rw2 rt2 rz2 rh2 rn2 ro2 rd2, F_X7_toss 2000 z hid ks ws ts cn ct' ch de rs dt ix o1 o2 o3 o4 nw am rk rw' rt rz rh rn' ro rd  = some (kk, r, z2, hid2, ks2, ws2, ts2, cn2, ct2, ch2, de2, rs2, dt2, ix2, s1, s2, s3, s4, nw2, am2, rk2, rw2, rt2, rz2, rh2, rn2, ro2, rd2) ∧ (∃ a2, LL z2 hid2 ks2 ws2 ts2 cn2 ct2 ch2 a2) ∧ GL (NRM z2 hid2 ks2 ws2 ts2 cn2 ct2 ch2) ∧ ((kk = 4 ∧ r = 0 ∧ (ordR (NRM z hid ks ws ts cn ct' ch) 116 0 0 1).1 ≠ 0 ∧ (NRM z2 hid2 ks2 ws2 ts2 cn2 ct2 ch2) = (NRM z hid ks ws ts cn ct' ch) ∧ rs2 = (ordR (NRM z hid ks ws ts cn ct' ch) 116 0 0 1).1 ∧ dt2 = (ordR (NRM z hid ks ws ts cn ct' ch) 116 0 0 1).2 ∧ ix2 = 0 ∧ HU nw2 am2 rk2 rw2 rt2 rz2 rh2 rn2 ro2 rd2 us) ∨ (kk = 0 ∧ r = (ordC (NRM z hid ks ws ts cn ct' ch) 116 0 0 1).1 ∧ 0 ≤ r ∧ (ordR (NRM z hid ks ws ts cn ct' ch) 116 0 0 1).1 = 0 ∧ (NRM z2 hid2 ks2 ws2 ts2 cn2 ct2 ch2) = (ordC (NRM z hid ks ws ts cn ct' ch) 116 0 0 1).2 ∧ rs2 = rs ∧ dt2 = dt ∧ ix2 = ix ∧ HU nw2 am2 rk2 rw2 rt2 rz2 rh2 rn2 ro2 rd2 (push (NRM z hid ks ws ts cn ct' ch) us))) := by
  have hL0 := LL_cut hL
  obtain ⟨n, rfl, hl, hM⟩ := hL
  obtain ⟨n2, en, hl2, hM2⟩ := hL0
  have hn := hl.1
  have hn2 := hl2.1
  obtain rfl : n = n2 := (nI_eq (by omega) (by omega)).mp en
  obtain ⟨kk, r, z2, hid2, ks2, ws2, ts2, cn2, ct2, ch2, de2, rs2, dt2, ix2, nw2, am2, rk2, rw2, rt2, rz2, rh2, rn2, ro2, rd2, e1, e2, e3, e4⟩ := n_change (de := de) (rs := rs) (dt := dt) (ix := ix) hl hM hG hH (k_toss (Nat.le_refl 2000) hl : CK 2000 n hid ks ws ts cn ct' ch 116 0 0 1) (r_tossC (Nat.le_refl 2000) hl hM : CM 2000 n hid ks ws ts cn ct' ch 116 0 0 1 0 0 0 0 a _) (r_tossC (Nat.le_refl 2000) hl2 hM2 : CM 2000 n hid (cut (nI n) ks) (cut (nI n) ws) (cut (nI n) ts) cn ct' ch 116 0 0 1 0 0 0 0 a _)
  refine ⟨kk, r, z2, hid2, ks2, ws2, ts2, cn2, ct2, ch2, de2, rs2, dt2, ix2, 116, 0, 0, 1, nw2, am2, rk2, rw2, rt2, rz2, rh2, rn2, ro2, rd2, ?_, e2, e3, e4⟩
  unfold F_X7_toss F_X4_tell
  rw [gd_e (by decide), bn4_e, e1, bn24_e]
  rcases e4 with ⟨rfl, rfl, -⟩ | ⟨rfl, -⟩
  · rw [if_neg (by decide)]
  · rw [if_pos rfl]
