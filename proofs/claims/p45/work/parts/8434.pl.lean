/-! some, and what is refused: over ghosts -/
theorem bm32 {z : Int} (h1 : -2147483648 ≤ z) (h2 : z < 2147483648) : z.bmod (2 ^ 32) = z := by
  apply Int.bmod_eq_of_le_mul_two
  · show -((2 ^ 32 : Nat) : Int) ≤ z * 2
    have : ((2 ^ 32 : Nat) : Int) = 4294967296 := by decide
    omega
  · show z * 2 < ((2 ^ 32 : Nat) : Int)
    have : ((2 ^ 32 : Nat) : Int) = 4294967296 := by decide
    omega
theorem rem_int {x : Int32} {n : Nat} (h0 : 0 < n) (h : n < 2 ^ 31) : (x - x / nI n * nI n).toInt = x.toInt.tmod n := by
  have e : x.toInt - x.toInt.tdiv n * n = x.toInt.tmod n := by
    have := Int.tmod_add_tdiv_mul x.toInt n
    omega
  have b1 : x.toInt.tmod n < n := Int.tmod_lt_of_pos _ (by omega)
  have b2 : -(n : Int) < x.toInt.tmod n := by
    have := Int.lt_tmod_of_pos x.toInt (b := n) (by omega)
    omega
  rw [Int32.toInt_sub, Int32.toInt_mul, Int32.toInt_div, nI_toInt h, Int.bmod_mul_bmod, Int.sub_bmod_bmod, e]
  exact bm32 (by omega) (by omega)
theorem sm_lt {v : Int32} {n : Nat} (h0 : 0 < n) (h : n < 2 ^ 31) : ∃ k, k < n ∧ sm v (nI n) = nI k := by
  have r := rem_int (x := v) h0 h
  have b1 : v.toInt.tmod n < n := Int.tmod_lt_of_pos _ (by omega)
  have b2 : -(n : Int) < v.toInt.tmod n := by
    have := Int.lt_tmod_of_pos v.toInt (b := n) (by omega)
    omega
  unfold sm
  by_cases c : v - v / nI n * nI n < 0
  · rw [if_pos c]
    have c2 := Int32.lt_iff_toInt_lt.mp c
    rw [r, show (0 : Int32).toInt = 0 from rfl] at c2
    refine ⟨(v.toInt.tmod n + n).toNat, by omega, Int32.toInt_inj.mp ?_⟩
    rw [nI_toInt (by omega), Int32.toInt_add, r, nI_toInt h, bm32 (by omega) (by omega)]
    omega
  · rw [if_neg c]
    have c2 : ¬ v.toInt.tmod n < 0 := fun z => c (Int32.lt_iff_toInt_lt.mpr (by rw [r]; exact z))
    refine ⟨(v.toInt.tmod n).toNat, by omega, Int32.toInt_inj.mp ?_⟩
    rw [nI_toInt (by omega), r]
    omega
theorem rem_nI {k n : Nat} (hk : k < 2 ^ 31) (h0 : 0 < n) (h : n < 2 ^ 31) : nI k - nI k / nI n * nI n = nI (k % n) := by
  have hm : k % n < n := Nat.mod_lt _ h0
  refine Int32.toInt_inj.mp ?_
  rw [rem_int h0 h, nI_toInt hk, nI_toInt (by omega)]
  rfl
/-! orders that are refused, and filing -/
theorem R_filing {q : Lad} {n : Nat} (hn : n ≤ 24) (hq : q.1 = nI n) {sg k we ru : Int32} (hs : sg = 43 ∨ sg = 94) : ordR q sg k we ru = (if inR 0 999 k = true ∧ inR 0 99 we = true ∧ inR 1 5 ru = true then (match pw n q.2.2.1 k with | some j => (4, nI j) | none => if n < 24 then (0, 0) else (2, 24)) else (1, 0) : Int32 × Int32) := by
  unfold ordR
  rcases hs with rfl | rfl
  · rw [hq, e_43, p_filing hn (Nat.le_refl 2000)]
    by_cases c : inR 0 999 k = true ∧ inR 0 99 we = true ∧ inR 1 5 ru = true
    · rw [if_pos c, if_pos c]
      cases pw n q.2.2.1 k with
      | some j => rfl
      | none => by_cases c2 : n < 24 <;> simp only [c2, if_true, if_false]
    · rw [if_neg c, if_neg c]
  · rw [hq, e_94, p_filing hn (Nat.le_refl 2000)]
    by_cases c : inR 0 999 k = true ∧ inR 0 99 we = true ∧ inR 1 5 ru = true
    · rw [if_pos c, if_pos c]
      cases pw n q.2.2.1 k with
      | some j => rfl
      | none => by_cases c2 : n < 24 <;> simp only [c2, if_true, if_false]
    · rw [if_neg c, if_neg c]
theorem R_folder {q : Lad} {n : Nat} (hn : n ≤ 24) (hq : q.1 = nI n) {sg k we ru : Int32} (hs : sg = 45 ∨ sg = 117 ∨ sg = 100 ∨ sg = 119) (hr : ¬ (inR 0 999 k = true ∧ inR 0 99 we = true)) : ordR q sg k we ru = (1, 0) := by
  unfold ordR
  rcases hs with rfl | rfl | rfl | rfl
  · rw [hq, e_45, p_folder hn (Nat.le_refl 2000) (by decide), if_neg hr]
  · rw [hq, e_117, p_folder hn (Nat.le_refl 2000) (by decide), if_neg hr]
  · rw [hq, e_100, p_folder hn (Nat.le_refl 2000) (by decide), if_neg hr]
  · rw [hq, e_119, p_folder hn (Nat.le_refl 2000) (by decide), if_neg hr]
theorem R_weigh {q : Lad} {n : Nat} (hn : n ≤ 24) (hq : q.1 = nI n) {k we ru : Int32} {j : Nat} (hk : inR 0 999 k = true) (hw : inR 0 99 we = true) (hp : pw n q.2.2.1 k = some j) (he : q.2.2.2.1 j = we) : ordR q 119 k we ru = (7, we) := by
  unfold ordR
  rw [hq, e_119, p_folder hn (Nat.le_refl 2000) (by decide), if_pos ⟨hk, hw⟩, hp]
  show (match (if (119 : Int32) = 119 then F_X0_againstWeight 2000 0 we (q.2.2.2.1 j) else _) with | some x => x | none => (0, 0)) = _
  rw [if_pos rfl, he]
  unfold F_X0_againstWeight
  rw [if_pos rfl]
  rfl
theorem R_level {q : Lad} {n : Nat} (hq : q.1 = nI n) {sg k we ru : Int32} (hs : sg = 102 ∨ sg = 114) (hr : ¬ inR 1 4 k = true) : ordR q sg k we ru = (1, 0) := by
  unfold ordR
  rcases hs with rfl | rfl
  · rw [hq, e_102, p_level (by decide), if_neg hr]
  · rw [hq, e_114, p_level (by decide), if_neg hr]
theorem C_filing {q : Lad} {n : Nat} (h : GL q) (hq : q.1 = nI n) (c4 : n < 24) {sg k w ru : Int32} (hs : sg = 43 ∨ sg = 94) : (ordC q sg k w ru).2.1 = nI (n + 1) ∧ (ordC q sg k w ru).2.2.1 = q.2.1 := by
  obtain ⟨⟨a, n2, h1, hl, hM⟩, -⟩ := h
  have hn := hl.1
  obtain rfl : n2 = n := (nI_eq (by omega) (by omega)).mp (h1.symm.trans hq)
  unfold ordC
  rcases hs with rfl | rfl
  · obtain ⟨t, u, v2, z, a', g1, g2, g3, g4, g5⟩ := r_tower (fl := 2000) (rs := 0) (dt := 0) (ix := 0) (an := 0) (k := k) (w := w) (x3 := 0) c4 (Nat.le_refl 2000) 4 1 2000 2000 q.2.2.2.2.2.1 q.2.2.2.2.2.2.1 q.2.2.2.2.2.2.2 a (by omega) (by omega) (by omega) (by omega) hM
    rw [hq, c_43 hn (Nat.le_refl 2000)]
    unfold F_X0_insertByCoins F_X3_coin F_X4_number F_X4_weight F_X1_throwTower
    rw [bn_e, l1, g1, bn4_e, bn_e, bn_e, p_insert c4 (Nat.le_refl 2000), bn4_e, bn8_e]
    exact ⟨rfl, rfl⟩
  · rw [hq, c_94 hn (Nat.le_refl 2000), p_insert c4 (Nat.le_refl 2000), bn4_e, p_lowerKeys (by omega) (Nat.le_refl 2000), bn_e]
    exact ⟨rfl, rfl⟩
theorem R_fil_no {q : Lad} {n : Nat} (c4 : n < 24) (hq : q.1 = nI n) {sg k we ru : Int32} (hs : sg = 43 ∨ sg = 94) (h1 : inR 0 999 k = true) (h2 : inR 0 99 we = true) (h3 : inR 1 5 ru = true) (hne : (ordR q sg k we ru).1 ≠ 0) : ∃ j, j < n ∧ ordR q sg k we ru = (4, nI j) := by
  have h := R_filing (q := q) (n := n) (by omega) hq (k := k) (we := we) (ru := ru) hs
  rw [if_pos ⟨h1, h2, h3⟩] at h
  cases e : pw n q.2.2.1 k with
  | some j => rw [e] at h; exact ⟨j, (pw_some e).1, h⟩
  | none =>
    rw [e] at h
    have h : ordR q sg k we ru = (if n < 24 then (0, 0) else (2, 24) : Int32 × Int32) := h
    rw [if_pos c4] at h
    exact absurd (by rw [h]) hne
theorem R_fil_range {q : Lad} {n : Nat} (hn : n ≤ 24) (hq : q.1 = nI n) {sg k we ru : Int32} (hs : sg = 43 ∨ sg = 94) (h1 : ¬ (inR 0 999 k = true ∧ inR 0 99 we = true ∧ inR 1 5 ru = true)) : ordR q sg k we ru = (1, 0) := by
  rw [R_filing hn hq hs, if_neg h1]
theorem R_fil_there {q : Lad} {n j : Nat} (hn : n ≤ 24) (hq : q.1 = nI n) {sg k we ru : Int32} (hs : sg = 43 ∨ sg = 94) (h1 : inR 0 999 k = true) (h2 : inR 0 99 we = true) (h3 : inR 1 5 ru = true) (hp : pw n q.2.2.1 k = some j) : ordR q sg k we ru = (4, nI j) := by
  rw [R_filing hn hq hs, if_pos ⟨h1, h2, h3⟩, hp]
theorem R_forget0 {q : Lad} {n : Nat} (hq : q.1 = nI n) (hh : q.2.1 = 0) {lv : Nat} (h1 : 1 ≤ lv) (h2 : lv ≤ 4) {we ru : Int32} : ordR q 102 (nI lv) we ru = (0, 0) := by
  unfold ordR
  have h : ∀ lv : Fin 5, 1 ≤ lv.val → inR 1 4 (nI lv.val) = true ∧ hb 0 (nI lv.val) = false := by decide +kernel
  have g := h ⟨lv, by omega⟩ h1
  rw [hq, e_102, p_level (by decide), if_pos g.1, hh, g.2]
  rfl
theorem C_forget {q : Lad} {n : Nat} (hn : n ≤ 24) (hq : q.1 = nI n) {k we ru : Int32} : (ordC q 102 k we ru).2.1 = q.1 := by
  unfold ordC
  rw [hq, c_102 hn (Nat.le_refl 2000)]
