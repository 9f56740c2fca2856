/-! coins -/
theorem bn2_e {A1 A2 G : Type} {a1 : A1} {a2 : A2} {f : A1 → A2 → Option G} : bn2 (some (a1, a2)) f = f a1 a2 := rfl
theorem bn3_e {A1 A2 A3 G : Type} {a1 : A1} {a2 : A2} {a3 : A3} {f : A1 → A2 → A3 → Option G} : bn3 (some (a1, a2, a3)) f = f a1 a2 a3 := rfl
theorem bn4_e {A1 A2 A3 A4 G : Type} {a1 : A1} {a2 : A2} {a3 : A3} {a4 : A4} {f : A1 → A2 → A3 → A4 → Option G} : bn4 (some (a1, a2, a3, a4)) f = f a1 a2 a3 a4 := rfl
theorem bn5_e {A1 A2 A3 A4 A5 G : Type} {a1 : A1} {a2 : A2} {a3 : A3} {a4 : A4} {a5 : A5} {f : A1 → A2 → A3 → A4 → A5 → Option G} : bn5 (some (a1, a2, a3, a4, a5)) f = f a1 a2 a3 a4 a5 := rfl
theorem bn6_e {A1 A2 A3 A4 A5 A6 G : Type} {a1 : A1} {a2 : A2} {a3 : A3} {a4 : A4} {a5 : A5} {a6 : A6} {f : A1 → A2 → A3 → A4 → A5 → A6 → Option G} : bn6 (some (a1, a2, a3, a4, a5, a6)) f = f a1 a2 a3 a4 a5 a6 := rfl
theorem bn7_e {A1 A2 A3 A4 A5 A6 A7 G : Type} {a1 : A1} {a2 : A2} {a3 : A3} {a4 : A4} {a5 : A5} {a6 : A6} {a7 : A7} {f : A1 → A2 → A3 → A4 → A5 → A6 → A7 → Option G} : bn7 (some (a1, a2, a3, a4, a5, a6, a7)) f = f a1 a2 a3 a4 a5 a6 a7 := rfl
theorem bn8_e {A1 A2 A3 A4 A5 A6 A7 A8 G : Type} {a1 : A1} {a2 : A2} {a3 : A3} {a4 : A4} {a5 : A5} {a6 : A6} {a7 : A7} {a8 : A8} {f : A1 → A2 → A3 → A4 → A5 → A6 → A7 → A8 → Option G} : bn8 (some (a1, a2, a3, a4, a5, a6, a7, a8)) f = f a1 a2 a3 a4 a5 a6 a7 a8 := rfl
theorem bn9_e {A1 A2 A3 A4 A5 A6 A7 A8 A9 G : Type} {a1 : A1} {a2 : A2} {a3 : A3} {a4 : A4} {a5 : A5} {a6 : A6} {a7 : A7} {a8 : A8} {a9 : A9} {f : A1 → A2 → A3 → A4 → A5 → A6 → A7 → A8 → A9 → Option G} : bn9 (some (a1, a2, a3, a4, a5, a6, a7, a8, a9)) f = f a1 a2 a3 a4 a5 a6 a7 a8 a9 := rfl
theorem bn10_e {A1 A2 A3 A4 A5 A6 A7 A8 A9 A10 G : Type} {a1 : A1} {a2 : A2} {a3 : A3} {a4 : A4} {a5 : A5} {a6 : A6} {a7 : A7} {a8 : A8} {a9 : A9} {a10 : A10} {f : A1 → A2 → A3 → A4 → A5 → A6 → A7 → A8 → A9 → A10 → Option G} : bn10 (some (a1, a2, a3, a4, a5, a6, a7, a8, a9, a10)) f = f a1 a2 a3 a4 a5 a6 a7 a8 a9 a10 := rfl
theorem bn11_e {A1 A2 A3 A4 A5 A6 A7 A8 A9 A10 A11 G : Type} {a1 : A1} {a2 : A2} {a3 : A3} {a4 : A4} {a5 : A5} {a6 : A6} {a7 : A7} {a8 : A8} {a9 : A9} {a10 : A10} {a11 : A11} {f : A1 → A2 → A3 → A4 → A5 → A6 → A7 → A8 → A9 → A10 → A11 → Option G} : bn11 (some (a1, a2, a3, a4, a5, a6, a7, a8, a9, a10, a11)) f = f a1 a2 a3 a4 a5 a6 a7 a8 a9 a10 a11 := rfl
theorem bn13_e {A1 A2 A3 A4 A5 A6 A7 A8 A9 A10 A11 A12 A13 G : Type} {a1 : A1} {a2 : A2} {a3 : A3} {a4 : A4} {a5 : A5} {a6 : A6} {a7 : A7} {a8 : A8} {a9 : A9} {a10 : A10} {a11 : A11} {a12 : A12} {a13 : A13} {f : A1 → A2 → A3 → A4 → A5 → A6 → A7 → A8 → A9 → A10 → A11 → A12 → A13 → Option G} : bn13 (some (a1, a2, a3, a4, a5, a6, a7, a8, a9, a10, a11, a12, a13)) f = f a1 a2 a3 a4 a5 a6 a7 a8 a9 a10 a11 a12 a13 := rfl
theorem bn14_e {A1 A2 A3 A4 A5 A6 A7 A8 A9 A10 A11 A12 A13 A14 G : Type} {a1 : A1} {a2 : A2} {a3 : A3} {a4 : A4} {a5 : A5} {a6 : A6} {a7 : A7} {a8 : A8} {a9 : A9} {a10 : A10} {a11 : A11} {a12 : A12} {a13 : A13} {a14 : A14} {f : A1 → A2 → A3 → A4 → A5 → A6 → A7 → A8 → A9 → A10 → A11 → A12 → A13 → A14 → Option G} : bn14 (some (a1, a2, a3, a4, a5, a6, a7, a8, a9, a10, a11, a12, a13, a14)) f = f a1 a2 a3 a4 a5 a6 a7 a8 a9 a10 a11 a12 a13 a14 := rfl
theorem bn16_e {A1 A2 A3 A4 A5 A6 A7 A8 A9 A10 A11 A12 A13 A14 A15 A16 G : Type} {a1 : A1} {a2 : A2} {a3 : A3} {a4 : A4} {a5 : A5} {a6 : A6} {a7 : A7} {a8 : A8} {a9 : A9} {a10 : A10} {a11 : A11} {a12 : A12} {a13 : A13} {a14 : A14} {a15 : A15} {a16 : A16} {f : A1 → A2 → A3 → A4 → A5 → A6 → A7 → A8 → A9 → A10 → A11 → A12 → A13 → A14 → A15 → A16 → Option G} : bn16 (some (a1, a2, a3, a4, a5, a6, a7, a8, a9, a10, a11, a12, a13, a14, a15, a16)) f = f a1 a2 a3 a4 a5 a6 a7 a8 a9 a10 a11 a12 a13 a14 a15 a16 := rfl
theorem bn19_e {A1 A2 A3 A4 A5 A6 A7 A8 A9 A10 A11 A12 A13 A14 A15 A16 A17 A18 A19 G : Type} {a1 : A1} {a2 : A2} {a3 : A3} {a4 : A4} {a5 : A5} {a6 : A6} {a7 : A7} {a8 : A8} {a9 : A9} {a10 : A10} {a11 : A11} {a12 : A12} {a13 : A13} {a14 : A14} {a15 : A15} {a16 : A16} {a17 : A17} {a18 : A18} {a19 : A19} {f : A1 → A2 → A3 → A4 → A5 → A6 → A7 → A8 → A9 → A10 → A11 → A12 → A13 → A14 → A15 → A16 → A17 → A18 → A19 → Option G} : bn19 (some (a1, a2, a3, a4, a5, a6, a7, a8, a9, a10, a11, a12, a13, a14, a15, a16, a17, a18, a19)) f = f a1 a2 a3 a4 a5 a6 a7 a8 a9 a10 a11 a12 a13 a14 a15 a16 a17 a18 a19 := rfl
theorem bn24_e {A1 A2 A3 A4 A5 A6 A7 A8 A9 A10 A11 A12 A13 A14 A15 A16 A17 A18 A19 A20 A21 A22 A23 A24 G : Type} {a1 : A1} {a2 : A2} {a3 : A3} {a4 : A4} {a5 : A5} {a6 : A6} {a7 : A7} {a8 : A8} {a9 : A9} {a10 : A10} {a11 : A11} {a12 : A12} {a13 : A13} {a14 : A14} {a15 : A15} {a16 : A16} {a17 : A17} {a18 : A18} {a19 : A19} {a20 : A20} {a21 : A21} {a22 : A22} {a23 : A23} {a24 : A24} {f : A1 → A2 → A3 → A4 → A5 → A6 → A7 → A8 → A9 → A10 → A11 → A12 → A13 → A14 → A15 → A16 → A17 → A18 → A19 → A20 → A21 → A22 → A23 → A24 → Option G} : bn24 (some (a1, a2, a3, a4, a5, a6, a7, a8, a9, a10, a11, a12, a13, a14, a15, a16, a17, a18, a19, a20, a21, a22, a23, a24)) f = f a1 a2 a3 a4 a5 a6 a7 a8 a9 a10 a11 a12 a13 a14 a15 a16 a17 a18 a19 a20 a21 a22 a23 a24 := rfl
variable {fl n : Nat} {ks ws ts a : Nat → Int32} {key lev hid cn ct' ch : Int32}
/-- the following number -/
def fw (z : Int32) : Int32 := ((73 : Int32) * z + (19 : Int32)) - ((73 : Int32) * z + (19 : Int32)) / (10000 : Int32) * (10000 : Int32)
/-- it shows heads -/
def hd (z : Int32) : Bool := decide ((z / (100 : Int32) - z / (100 : Int32) / (2 : Int32) * (2 : Int32)) = (1 : Int32))
theorem p_showsHeads {z : Int32} : F_X1_showsHeads fl z = some (if hd z then 1 else 0) := by
  unfold F_X1_showsHeads hd
  simp only [lt]
  by_cases h : (z / (100 : Int32) - z / (100 : Int32) / (2 : Int32) * (2 : Int32)) = (1 : Int32)
  · rw [if_pos h, if_pos (decide_eq_true h)]
  · rw [if_neg h, if_neg (fun q => h (of_decide_eq_true q))]
theorem p_following {z : Int32} : F_X1_following fl z = some (fw z) := rfl
theorem p_throwIt : F_X1_throwIt fl cn ct' ch = some (if hd (fw cn) then (1, fw cn, ct' + 1, ch + 1) else (0, fw cn, ct' + 1, ch)) := by
  unfold F_X1_throwIt
  rw [p_following, bn_e, p_showsHeads, bn_e]
  by_cases h : hd (fw cn) = true
  · rw [if_pos h, if_pos h, if_neg (by decide), gd_e (by decide)]
  · rw [if_neg h, if_neg h, if_pos rfl, gd_e (by decide)]
theorem MR_coin (h : MR n ks ws ts cn ct' ch hid a) (x y z : Int32) : MR n ks ws ts x y z hid (upd (upd (upd a 1 x) 2 y) 3 z) := by
  refine ⟨by rw [pk_un (by omega), pk_un (by omega), pk_un (by omega)]; exact h.1, by rw [pk_un (by omega), pk_un (by omega), pk_us], by rw [pk_un (by omega), pk_us], by rw [pk_us], by rw [pk_un (by omega), pk_un (by omega), pk_un (by omega)]; exact h.2.2.2.2.1, fun j hj => ?_⟩
  rw [pk_un (by omega), pk_un (by omega), pk_un (by omega), pk_un (by omega), pk_un (by omega), pk_un (by omega), pk_un (by omega), pk_un (by omega), pk_un (by omega)]
  exact h.2.2.2.2.2 j hj
theorem MR_coin2 (h : MR n ks ws ts cn ct' ch hid a) (x y : Int32) : MR n ks ws ts x y ch hid (upd (upd a 1 x) 2 y) := by
  refine ⟨by rw [pk_un (by omega), pk_un (by omega)]; exact h.1, by rw [pk_un (by omega), pk_us], by rw [pk_us], by rw [pk_un (by omega), pk_un (by omega)]; exact h.2.2.2.1, by rw [pk_un (by omega), pk_un (by omega)]; exact h.2.2.2.2.1, fun j hj => ?_⟩
  rw [pk_un (by omega), pk_un (by omega), pk_un (by omega), pk_un (by omega), pk_un (by omega), pk_un (by omega)]
  exact h.2.2.2.2.2 j hj
theorem q_tosses (h : MR n ks ws ts cn ct' ch hid a) : ∃ a', F_X8_tosses fl a = some ((if hd (fw cn) then 1 else 0), a') ∧ MR n ks ws ts (fw cn) (ct' + 1) (if hd (fw cn) then ch + 1 else ch) hid a' := by
  unfold F_X8_tosses
  simp only [lt]
  rw [gl1, gl1, gl2, gl2, gl1, c1, c2, c3, h.2.1, show upd (upd a 1 ((73 : Int32) * cn + (19 : Int32) - ((73 : Int32) * cn + (19 : Int32)) / (10000 : Int32) * (10000 : Int32))) 2 (upd a 1 ((73 : Int32) * cn + (19 : Int32) - ((73 : Int32) * cn + (19 : Int32)) / (10000 : Int32) * (10000 : Int32)) 2 + 1) = upd (upd a 1 (fw cn)) 2 (ct' + 1) by rw [← h.2.2.1]; rfl, show upd (upd a 1 (fw cn)) 2 (ct' + 1) 1 = fw cn by rw [pk_un (by omega), pk_us]]
  by_cases e : hd (fw cn) = true
  · rw [if_pos (of_decide_eq_true e), if_neg (by decide), gl3, gl3, if_pos e, if_pos e, show upd (upd a 1 (fw cn)) 2 (ct' + 1) 3 = ch by rw [pk_un (by omega), pk_un (by omega)]; exact h.2.2.2.1]
    exact ⟨_, rfl, MR_coin h _ _ _⟩
  · rw [if_neg (fun q => e (decide_eq_true q)), if_pos trivial, if_neg e, if_neg e]
    exact ⟨_, rfl, MR_coin2 h _ _⟩
theorem r_tower (hn : n < 24) (hf : 2000 ≤ fl) {rs dt ix an k w x3 : Int32} : ∀ (d j m m' : Nat) (cn ct' ch : Int32) (a : Nat → Int32), j + d = 5 → 1 ≤ j → d < m → d < m' → MR n ks ws ts cn ct' ch hid a →
    ∃ t u v z a', F_X1_throwTower_2 fl m cn ct' ch (nI j) = some (nI t, u, v, z) ∧ 1 ≤ t ∧ t ≤ 5 ∧ MR n ks ws ts u v z hid a' ∧
      F_X8_files_84 fl m' rs dt ix an a k w x3 0 (nI j) = some (1, rs, dt, ix, nI t, inA a' (lw n ks k) n k w (nI t)) := by
  intro d
  induction d with
  | zero =>
    intro j m m' cn ct' ch a hj h1 hm hm' h
    obtain ⟨m, rfl⟩ : ∃ q, m = q + 1 := ⟨m - 1, by omega⟩
    obtain ⟨m', rfl⟩ : ∃ q, m' = q + 1 := ⟨m' - 1, by omega⟩
    obtain rfl : j = 5 := by omega
    refine ⟨5, cn, ct', ch, a, by rw [F_X1_throwTower_2, if_pos (by decide)], by omega, by omega, h, ?_⟩
    rw [F_X8_files_84, if_pos (by decide), q_lower (by omega) hf h, bn_e, gl0, q_ins hn hf h, if_pos rfl]
  | succ d ih =>
    intro j m m' cn ct' ch a hj h1 hm hm' h
    obtain ⟨m, rfl⟩ : ∃ q, m = q + 1 := ⟨m - 1, by omega⟩
    obtain ⟨m', rfl⟩ : ∃ q, m' = q + 1 := ⟨m' - 1, by omega⟩
    obtain ⟨a', e1, h'⟩ := q_tosses (fl := fl) h
    have c5 : ¬ (5 : Int32) ≤ nI j := fun q => by have := (nI_leI (by omega) (by omega)).mp (show nI 5 ≤ nI j from q); omega
    rw [F_X1_throwTower_2, if_neg c5, p_throwIt, F_X8_files_84, if_neg c5, e1]
    by_cases e : hd (fw cn) = true
    · rw [if_pos e, if_pos e]
      rw [if_pos e] at h'
      obtain ⟨t, u, v, z, a2, g1, g2, g3, g4, g5⟩ := ih (j + 1) m m' _ _ _ a' (by omega) (by omega) (by omega) (by omega) h'
      refine ⟨t, u, v, z, a2, ?_, g2, g3, g4, ?_⟩
      · rw [← nI_1] at g1; exact g1
      · rw [← nI_1] at g5; exact g5
    · rw [if_neg e, if_neg e]
      rw [if_neg e] at h'
      refine ⟨j, fw cn, ct' + 1, ch, a', rfl, h1, by omega, h', ?_⟩
      rw [bn2_e, if_pos rfl, q_lower (by omega) hf h', bn_e, gl0, q_ins hn hf h', if_pos rfl]
theorem r_ahead {thr x1 x2 x3 : Int32} : ∀ (d j m m' : Nat) (cn ct' ch : Int32) (a : Nat → Int32), j + d = 5 → 1 ≤ j → d < m → d < m' → MR n ks ws ts cn ct' ch hid a →
    ∃ t a', F_X1_towerAhead_10 fl key m (fw cn) (nI j) = some (nI t) ∧ F_X8_nextRungs_29 fl m' thr a x1 x2 x3 (nI j) = some (nI t, thr, a') ∧ MR n ks ws ts x1 x2 x3 hid a' := by
  intro d
  induction d with
  | zero =>
    intro j m m' cn ct' ch a hj h1 hm hm' h
    obtain ⟨m, rfl⟩ : ∃ q, m = q + 1 := ⟨m - 1, by omega⟩
    obtain ⟨m', rfl⟩ : ∃ q, m' = q + 1 := ⟨m' - 1, by omega⟩
    obtain rfl : j = 5 := by omega
    exact ⟨5, _, by rw [F_X1_towerAhead_10, if_pos (by decide)], by rw [F_X8_nextRungs_29, if_pos (by decide), gl1, gl2, gl3, c1, c2, c3], MR_coin h _ _ _⟩
  | succ d ih =>
    intro j m m' cn ct' ch a hj h1 hm hm' h
    obtain ⟨m, rfl⟩ : ∃ q, m = q + 1 := ⟨m - 1, by omega⟩
    obtain ⟨m', rfl⟩ : ∃ q, m' = q + 1 := ⟨m' - 1, by omega⟩
    obtain ⟨a', e1, h'⟩ := q_tosses (fl := fl) h
    have c5 : ¬ (5 : Int32) ≤ nI j := fun q => by have := (nI_leI (by omega) (by omega)).mp (show nI 5 ≤ nI j from q); omega
    rw [F_X1_towerAhead_10, if_neg c5, p_showsHeads, bn_e, F_X8_nextRungs_29, if_neg c5, e1, bn2_e]
    by_cases e : hd (fw cn) = true
    · rw [if_pos e, if_neg (by decide), if_neg (by decide), p_following, bn_e, nI_1]
      exact ih (j + 1) m m' _ _ _ a' (by omega) (by omega) (by omega) (by omega) h'
    · rw [if_neg e, if_pos rfl, if_pos rfl, gl1, gl2, gl3, c1, c2, c3]
      exact ⟨j, _, rfl, rfl, MR_coin h' _ _ _⟩
theorem r_nextRungs (hf : 2000 ≤ fl) {thr : Int32} (h : MR n ks ws ts cn ct' ch hid a) : ∃ r a', F_X7_nextRungs fl cn = some r ∧ F_X8_nextRungs fl thr a = some (r, 0, a') ∧ MR n ks ws ts cn ct' ch hid a' := by
  obtain ⟨t, a', e1, e2, h'⟩ := r_ahead (fl := fl) (key := cn) (thr := 0) (x1 := cn) (x2 := ct') (x3 := ch) 4 1 fl fl cn ct' ch a (by omega) (by omega) (by omega) (by omega) h
  refine ⟨nI t, a', ?_, ?_, h'⟩
  · unfold F_X7_nextRungs F_X3_coin F_X1_towerAhead
    rw [bn_e, p_following, bn_e, l1, e1]; rfl
  · unfold F_X8_nextRungs
    rw [gl1, gl2, gl3, c1, c2, c3, h.2.1, h.2.2.1, h.2.2.2.1]; exact e2
