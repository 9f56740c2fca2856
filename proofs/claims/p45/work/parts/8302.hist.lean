/-! what is kept, as a list of ghosts: the newest first; changes, undo, save, restore, texts over it -/
variable {fl n : Nat} {ks ws ts a : Nat → Int32} {key lev hid cn ct' ch z : Int32} {k w we ru rs dt ix an x3 d0 sg no de : Int32}
variable {nw am : Int32} {rk rw' rt : Nat → Nat → Int32} {rz rh rn' ro rd : Nat → Int32} {us : List Lad}
def HU (nw am : Int32) (rk rw rt : Nat → Nat → Int32) (rs rh rn ro rd : Nat → Int32) (us : List Lad) : Prop :=
  ∃ p, us.length ≤ 8 ∧ p < 8 ∧ nw = nI p ∧ am = nI us.length ∧ (∀ s, s < us.length → ∃ a, LL (rs ((p + 8 - s) % 8)) (rh ((p + 8 - s) % 8)) (rk ((p + 8 - s) % 8)) (rw ((p + 8 - s) % 8)) (rt ((p + 8 - s) % 8)) (rn ((p + 8 - s) % 8)) (ro ((p + 8 - s) % 8)) (rd ((p + 8 - s) % 8)) a) ∧ (∀ s, s < us.length → us[s]? = some (NRM (rs ((p + 8 - s) % 8)) (rh ((p + 8 - s) % 8)) (rk ((p + 8 - s) % 8)) (rw ((p + 8 - s) % 8)) (rt ((p + 8 - s) % 8)) (rn ((p + 8 - s) % 8)) (ro ((p + 8 - s) % 8)) (rd ((p + 8 - s) % 8)))) ∧ ∀ q ∈ us, GL q
abbrev push (q : Lad) (us : List Lad) : List Lad := (q :: us).take 8
theorem n_copy (h : LL z hid ks ws ts cn ct' ch a) {s1 s2 s6 s7 s8 : Int32} {s3 s4 s5 : Nat → Int32} : ∃ ks' ws' ts', F_X3_copyFrom fl s1 s2 s3 s4 s5 s6 s7 s8 z hid ks ws ts cn ct' ch = some (z, hid, ks', ws', ts', cn, ct', ch) ∧ LL z hid ks' ws' ts' cn ct' ch a ∧ NRM z hid ks' ws' ts' cn ct' ch = NRM z hid ks ws ts cn ct' ch := by
  obtain ⟨ks', ws', ts', e, h'⟩ := p_copy (fl := fl) h (s1 := s1) (s2 := s2) (s3 := s3) (s4 := s4) (s5 := s5) (s6 := s6) (s7 := s7) (s8 := s8)
  exact ⟨ks', ws', ts', e, h', NRM_a h' h⟩
/-- keeping a ladder -/
theorem n_keep (hL : LL z hid ks ws ts cn ct' ch a) (hG : GL (NRM z hid ks ws ts cn ct' ch)) (hH : HU nw am rk rw' rt rz rh rn' ro rd us) : ∃ nw2 am2 rk2 rw2 rt2 rs2 rh2 rn2 ro2 rd2,
    F_X2_keep fl nw am rk rw' rt rz rh rn' ro rd z hid ks ws ts cn ct' ch = some (nw2, am2, rk2, rw2, rt2, rs2, rh2, rn2, ro2, rd2) ∧ HU nw2 am2 rk2 rw2 rt2 rs2 rh2 rn2 ro2 rd2 (push (NRM z hid ks ws ts cn ct' ch) us) := by
  obtain ⟨p, hm, hp, rfl, rfl, hA, hS, hU⟩ := hH
  have hj : (p + 1) % 8 < 8 := Nat.mod_lt _ (by decide)
  obtain ⟨ks', ws', ts', e1, hL', hN⟩ := n_copy (fl := fl) hL (s1 := rz ((p + 1) % 8)) (s2 := rh ((p + 1) % 8)) (s3 := rk ((p + 1) % 8)) (s4 := rw' ((p + 1) % 8)) (s5 := rt ((p + 1) % 8)) (s6 := rn' ((p + 1) % 8)) (s7 := ro ((p + 1) % 8)) (s8 := rd ((p + 1) % 8))
  have eK : F_X2_keep fl (nI p) (nI us.length) rk rw' rt rz rh rn' ro rd z hid ks ws ts cn ct' ch = some (nI ((p + 1) % 8), nI (if us.length = 8 then 8 else us.length + 1), va_up rk ((p + 1) % 8) ks', va_up rw' ((p + 1) % 8) ws', va_up rt ((p + 1) % 8) ts', va_up rz ((p + 1) % 8) z, va_up rh ((p + 1) % 8) hid, va_up rn' ((p + 1) % 8) cn, va_up ro ((p + 1) % 8) ct', va_up rd ((p + 1) % 8) ch) := by
    unfold F_X2_keep F_X2_keepS
    simp only [lt]
    rw [rg_up ⟨p, hp⟩, p_ring hj, bn_e, bn_e, gd_e rfl, e1, bn8_e, show (if (8 : Int32) < nI us.length + 1 then (8 : Int32) else nI us.length + 1) = nI (if us.length = 8 then 8 else us.length + 1) from am_up ⟨us.length, by omega⟩, bn10_e]
  have eL : (push (NRM z hid ks ws ts cn ct' ch) us).length = if us.length = 8 then 8 else us.length + 1 := by
    show ((NRM z hid ks ws ts cn ct' ch :: us).take 8).length = _
    rw [List.length_take, List.length_cons]
    split <;> omega
  have eG : ∀ s, s < 8 → (push (NRM z hid ks ws ts cn ct' ch) us)[s]? = (NRM z hid ks ws ts cn ct' ch :: us)[s]? := fun s hs => List.getElem?_take_of_lt hs
  refine ⟨_, _, _, _, _, _, _, _, _, _, eK, (p + 1) % 8, by rw [eL]; split <;> omega, hj, rfl, by rw [eL], fun s hs => ?_, fun s hs => ?_, fun q hq => ?_⟩
  · rw [eL] at hs
    cases s with
    | zero =>
      rw [show ((p + 1) % 8 + 8 - 0) % 8 = (p + 1) % 8 by omega, va_up_self, va_up_self, va_up_self, va_up_self, va_up_self, va_up_self, va_up_self, va_up_self]
      exact ⟨a, hL'⟩
    | succ s =>
      have hs2 : s < us.length ∧ s < 7 := by split at hs <;> omega
      have i1 : ((p + 1) % 8 + 8 - (s + 1)) % 8 = (p + 8 - s) % 8 := by omega
      have i2 : (p + 8 - s) % 8 ≠ (p + 1) % 8 := by omega
      rw [i1, va_up_ne _ _ i2, va_up_ne _ _ i2, va_up_ne _ _ i2, va_up_ne _ _ i2, va_up_ne _ _ i2, va_up_ne _ _ i2, va_up_ne _ _ i2, va_up_ne _ _ i2]
      exact hA s hs2.1
  · rw [eL] at hs
    cases s with
    | zero =>
      rw [eG 0 (by omega), show ((p + 1) % 8 + 8 - 0) % 8 = (p + 1) % 8 by omega, va_up_self, va_up_self, va_up_self, va_up_self, va_up_self, va_up_self, va_up_self, va_up_self, hN]
      rfl
    | succ s =>
      have hs2 : s < us.length ∧ s < 7 := by split at hs <;> omega
      have i1 : ((p + 1) % 8 + 8 - (s + 1)) % 8 = (p + 8 - s) % 8 := by omega
      have i2 : (p + 8 - s) % 8 ≠ (p + 1) % 8 := by omega
      rw [eG (s + 1) (by omega), i1, va_up_ne _ _ i2, va_up_ne _ _ i2, va_up_ne _ _ i2, va_up_ne _ _ i2, va_up_ne _ _ i2, va_up_ne _ _ i2, va_up_ne _ _ i2, va_up_ne _ _ i2]
      exact hS s hs2.1
  · rcases List.mem_cons.mp (List.mem_of_mem_take hq) with rfl | h
    · exact hG
    · exact hU q h
/-- a change: refused, and nothing but the reason is new; or carried out, and what was is kept -/
theorem n_change {Q : Option (Int32 × Int32 × Int32 × Int32 × Int32 × (Nat → Int32))} {r0 d00 i0 an0 : Int32} (hl : LI n ks ts hid) (hM : MR n ks ws ts cn ct' ch hid a) (hG : GL (NRM (nI n) hid ks ws ts cn ct' ch)) (hH : HU nw am rk rw' rt rz rh rn' ro rd us) (hK : CK 2000 n hid ks ws ts cn ct' ch sg no we ru) (h1 : CM 2000 n hid ks ws ts cn ct' ch sg no we ru r0 d00 i0 an0 a Q) (h2 : CM 2000 n hid (cut (nI n) ks) (cut (nI n) ws) (cut (nI n) ts) cn ct' ch sg no we ru r0 d00 i0 an0 a Q) :
    ∃ kk r z2 hid2 ks2 ws2 ts2 cn2 ct2 ch2 de2 rs2 dt2 ix2 nw2 am2 rk2 rw2 rt2 rz2 rh2 rn2 ro2 rd2,
      F_X7_change 2000 (nI n) hid ks ws ts cn ct' ch de rs dt ix sg no we ru nw am rk rw' rt rz rh rn' ro rd = some (kk, r, z2, hid2, ks2, ws2, ts2, cn2, ct2, ch2, de2, rs2, dt2, ix2, nw2, am2, rk2, rw2, rt2, rz2, rh2, rn2, ro2, rd2) ∧ (∃ a2, LL z2 hid2 ks2 ws2 ts2 cn2 ct2 ch2 a2) ∧ GL (NRM z2 hid2 ks2 ws2 ts2 cn2 ct2 ch2) ∧
      ((kk = 4 ∧ r = 0 ∧ (ordR (NRM (nI n) hid ks ws ts cn ct' ch) sg no we ru).1 ≠ 0 ∧ NRM z2 hid2 ks2 ws2 ts2 cn2 ct2 ch2 = NRM (nI n) hid ks ws ts cn ct' ch ∧ rs2 = (ordR (NRM (nI n) hid ks ws ts cn ct' ch) sg no we ru).1 ∧ dt2 = (ordR (NRM (nI n) hid ks ws ts cn ct' ch) sg no we ru).2 ∧ ix2 = 0 ∧ HU nw2 am2 rk2 rw2 rt2 rz2 rh2 rn2 ro2 rd2 us) ∨
       (kk = 0 ∧ r = (ordC (NRM (nI n) hid ks ws ts cn ct' ch) sg no we ru).1 ∧ 0 ≤ r ∧ (ordR (NRM (nI n) hid ks ws ts cn ct' ch) sg no we ru).1 = 0 ∧ NRM z2 hid2 ks2 ws2 ts2 cn2 ct2 ch2 = (ordC (NRM (nI n) hid ks ws ts cn ct' ch) sg no we ru).2 ∧ rs2 = rs ∧ dt2 = dt ∧ ix2 = ix ∧ HU nw2 am2 rk2 rw2 rt2 rz2 rh2 rn2 ro2 rd2 (push (NRM (nI n) hid ks ws ts cn ct' ch) us))) := by
  have hn := hl.1
  have hL : LL (nI n) hid ks ws ts cn ct' ch a := ⟨n, rfl, hl, hM⟩
  have hW : WG n ws := by have := GL_w hG hL; rw [nI_clamp (by omega)] at this; exact this
  rcases n_ord hn hK hW h1 h2 with ⟨r, d, g0, g1, g2⟩ | ⟨d, v, z', hid', ks', ws', ts', cn', ct'', ch', a', g1, g2, g3, g4, g5, g6, g7⟩
  · refine ⟨4, 0, nI n, hid, ks, ws, ts, cn, ct', ch, d, r, d, 0, nw, am, rk, rw', rt, rz, rh, rn', ro, rd, ?_, ⟨a, hL⟩, hG, Or.inl ⟨rfl, rfl, by rw [g2]; exact g0, rfl, by rw [g2], by rw [g2], rfl, hH⟩⟩
    unfold F_X7_change F_X0_refuses
    rw [g1, bn2_e, if_neg g0, bn5_e, if_neg (by decide)]
  · obtain ⟨nw2, am2, rk2, rw2, rt2, rs2, rh2, rn2, ro2, rd2, e1, e3⟩ := n_keep (fl := 2000) hL hG hH
    refine ⟨0, v, z', hid', ks', ws', ts', cn', ct'', ch', d, rs, dt, ix, nw2, am2, rk2, rw2, rt2, rs2, rh2, rn2, ro2, rd2, ?_, ⟨a', g5⟩, GL_i g5 g7, Or.inr ⟨rfl, by rw [g4], g6, g3, by rw [g4], rfl, rfl, rfl, e3⟩⟩
    unfold F_X7_change F_X0_refuses
    rw [g1, bn2_e, if_pos rfl, bn5_e, if_pos rfl, e1, bn10_e, g2, bn9_e]
/-- undo -/
theorem n_undo (hL : LL z hid ks ws ts cn ct' ch a) (hG : GL (NRM z hid ks ws ts cn ct' ch)) (hH : HU nw am rk rw' rt rz rh rn' ro rd us) :
    ∃ kk r z2 hid2 ks2 ws2 ts2 cn2 ct2 ch2 nw2 am2, F_X7_undo 2000 z hid ks ws ts cn ct' ch nw am rk rw' rt rz rh rn' ro rd = some (kk, r, z2, hid2, ks2, ws2, ts2, cn2, ct2, ch2, nw2, am2) ∧ (∃ a2, LL z2 hid2 ks2 ws2 ts2 cn2 ct2 ch2 a2) ∧ GL (NRM z2 hid2 ks2 ws2 ts2 cn2 ct2 ch2) ∧
      ((kk = 5 ∧ r = 0 ∧ us = [] ∧ NRM z2 hid2 ks2 ws2 ts2 cn2 ct2 ch2 = NRM z hid ks ws ts cn ct' ch ∧ HU nw2 am2 rk rw' rt rz rh rn' ro rd us) ∨
       (kk = 0 ∧ ∃ q vs, us = q :: vs ∧ r = nI vs.length ∧ NRM z2 hid2 ks2 ws2 ts2 cn2 ct2 ch2 = q ∧ HU nw2 am2 rk rw' rt rz rh rn' ro rd vs)) := by
  have hH' := hH
  obtain ⟨p, hm, hp, rfl, rfl, hA, hS, hU⟩ := hH
  unfold F_X7_undo F_X2_takeBack F_X2_takeBackS F_X2_amount
  rw [p_ring hp, bn_e, bn_e, gd_e rfl]
  cases us with
  | nil =>
    rw [show nI ([] : List Lad).length = 0 from rfl, if_pos rfl]
    exact ⟨_, _, _, _, _, _, _, _, _, _, _, _, rfl, ⟨a, hL⟩, hG, Or.inl ⟨rfl, rfl, rfl, rfl, hH'⟩⟩
  | cons q vs =>
    have hv : vs.length + 1 ≤ 8 := hm
    rw [show (q :: vs).length = vs.length + 1 from rfl, if_neg (nI_ne0 (by omega) (by omega)), show nI (vs.length + 1) - 1 = nI vs.length from pk_sub (b := 1) (by omega)]
    obtain ⟨a0, ha⟩ := hA 0 (by show 0 < vs.length + 1; omega)
    have hs := hS 0 (by show 0 < vs.length + 1; omega)
    rw [show (p + 8 - 0) % 8 = p by omega] at ha hs
    have hq := Option.some.inj hs
    obtain ⟨ks', ws', ts', e1, hL', hN⟩ := n_copy (fl := 2000) ha (s1 := z) (s2 := hid) (s3 := ks) (s4 := ws) (s5 := ts) (s6 := cn) (s7 := ct') (s8 := ch)
    rw [e1]
    simp only [lt]
    rw [bn8_e, rg_dn ⟨p, hp⟩]
    refine ⟨0, nI vs.length, rz p, rh p, ks', ws', ts', rn' p, ro p, rd p, nI ((p + 7) % 8), nI vs.length, rfl, ⟨a0, hL'⟩, by rw [hN, ← hq]; exact hU q List.mem_cons_self, Or.inr ⟨rfl, q, vs, rfl, rfl, by rw [hN, ← hq], (p + 7) % 8, by omega, Nat.mod_lt _ (by decide), rfl, rfl, fun s h => ?_, fun s h => ?_, fun x hx => hU x (List.mem_cons_of_mem _ hx)⟩⟩
    · rw [show ((p + 7) % 8 + 8 - s) % 8 = (p + 8 - (s + 1)) % 8 by omega]
      exact hA (s + 1) (by show s + 1 < vs.length + 1; omega)
    · rw [show ((p + 7) % 8 + 8 - s) % 8 = (p + 8 - (s + 1)) % 8 by omega]
      exact hS (s + 1) (by show s + 1 < vs.length + 1; omega)
/-- what is saved, as a ghost -/
def SU (sv : Int32) (z hid : Int32) (ks ws ts : Nat → Int32) (cn ct ch : Int32) (o : Option Lad) : Prop := (sv = 0 ∧ o = none) ∨ (sv = 1 ∧ ∃ a q, o = some q ∧ LL z hid ks ws ts cn ct ch a ∧ NRM z hid ks ws ts cn ct ch = q ∧ GL q)
theorem n_save (hL : LL z hid ks ws ts cn ct' ch a) (hG : GL (NRM z hid ks ws ts cn ct' ch)) {sv s1 s2 s6 s7 s8 : Int32} {s3 s4 s5 : Nat → Int32} : ∃ z2 hid2 ks2 ws2 ts2 cn2 ct2 ch2, F_X7_save 2000 sv z hid ks ws ts cn ct' ch s1 s2 s3 s4 s5 s6 s7 s8 = some (z, 1, z2, hid2, ks2, ws2, ts2, cn2, ct2, ch2) ∧ SU 1 z2 hid2 ks2 ws2 ts2 cn2 ct2 ch2 (some (NRM z hid ks ws ts cn ct' ch)) := by
  obtain ⟨ks', ws', ts', e1, h1, hN⟩ := n_copy (fl := 2000) hL (s1 := s1) (s2 := s2) (s3 := s3) (s4 := s4) (s5 := s5) (s6 := s6) (s7 := s7) (s8 := s8)
  unfold F_X7_save F_X3_size
  rw [e1, bn8_e, bn_e]
  exact ⟨z, hid, ks', ws', ts', cn, ct', ch, rfl, Or.inr ⟨rfl, a, _, rfl, h1, hN, hG⟩⟩
theorem HU_clear (hH : HU nw am rk rw' rt rz rh rn' ro rd us) : HU nw 0 rk rw' rt rz rh rn' ro rd [] := by
  obtain ⟨p, hm, hp, rfl, rfl, hA, hS, hU⟩ := hH
  exact ⟨p, Nat.zero_le _, hp, rfl, rfl, fun s h => absurd h (Nat.not_lt_zero s), fun s h => absurd h (Nat.not_lt_zero s), fun q h => by cases h⟩
theorem n_restore (hL : LL z hid ks ws ts cn ct' ch a) (hG : GL (NRM z hid ks ws ts cn ct' ch)) (hH : HU nw am rk rw' rt rz rh rn' ro rd us) {sv s1 s2 s6 s7 s8 : Int32} {s3 s4 s5 : Nat → Int32} {o : Option Lad} (hS : SU sv s1 s2 s3 s4 s5 s6 s7 s8 o) :
    ∃ kk r z2 hid2 ks2 ws2 ts2 cn2 ct2 ch2 am2, F_X7_restore 2000 sv z hid ks ws ts cn ct' ch am s1 s2 s3 s4 s5 s6 s7 s8 = some (kk, r, z2, hid2, ks2, ws2, ts2, cn2, ct2, ch2, am2) ∧ (∃ a2, LL z2 hid2 ks2 ws2 ts2 cn2 ct2 ch2 a2) ∧ GL (NRM z2 hid2 ks2 ws2 ts2 cn2 ct2 ch2) ∧
      ((kk = 5 ∧ r = 0 ∧ o = none ∧ NRM z2 hid2 ks2 ws2 ts2 cn2 ct2 ch2 = NRM z hid ks ws ts cn ct' ch ∧ HU nw am2 rk rw' rt rz rh rn' ro rd us) ∨
       (kk = 0 ∧ ∃ q, o = some q ∧ r = q.1 ∧ NRM z2 hid2 ks2 ws2 ts2 cn2 ct2 ch2 = q ∧ HU nw am2 rk rw' rt rz rh rn' ro rd [])) := by
  unfold F_X7_restore F_X3_size F_X2_clear
  rcases hS with ⟨rfl, rfl⟩ | ⟨rfl, a0, q, rfl, h1, h2, h3⟩
  · rw [if_pos rfl]
    exact ⟨_, _, _, _, _, _, _, _, _, _, _, rfl, ⟨a, hL⟩, hG, Or.inl ⟨rfl, rfl, rfl, rfl, hH⟩⟩
  · obtain ⟨ks', ws', ts', e1, hL', hN⟩ := n_copy (fl := 2000) h1 (s1 := z) (s2 := hid) (s3 := ks) (s4 := ws) (s5 := ts) (s6 := cn) (s7 := ct') (s8 := ch)
    rw [if_neg (by decide), e1, bn8_e, bn_e, bn_e]
    exact ⟨0, s1, s1, s2, ks', ws', ts', s6, s7, s8, 0, rfl, ⟨a0, hL'⟩, by rw [hN, h2]; exact h3, Or.inr ⟨rfl, q, rfl, by rw [← h2], by rw [hN, h2], HU_clear hH⟩⟩
