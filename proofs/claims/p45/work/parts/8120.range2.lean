/-! the heaviest, keys at places, neighbours, ways -/
variable {fl n : Nat} {ks ws ts a : Nat → Int32} {key lev hid cn ct' ch z : Int32} {th g f p1 p2 x1 x2 x3 x4 x5 : Int32} {way : Nat → Int32}
theorem p_keyOrNone (hn : n ≤ 24) {j : Nat} (hj : j < 2 ^ 31) : F_X7_keyOrNone fl (nI n) ks (nI j) = some (if j < n then (0, ks j) else (2, 0)) := by
  unfold F_X7_keyOrNone
  rw [p_holds hn hj, bn_e, p_keyOf hn hj, bn_e]
  by_cases c : j < n
  · rw [if_pos c, if_pos c, if_pos c, if_neg (by decide)]
  · rw [if_neg c, if_neg c, if_neg c, if_pos rfl]
theorem p_keyOrNoneH : F_X7_keyOrNone fl (nI n) ks (-1) = some (2, 0) := by
  unfold F_X7_keyOrNone
  rw [p_holdsH, bn_e, if_pos rfl]
def bI : Option Nat → Int32
  | some b => nI b
  | none => -1
theorem r_heavyL (hn : n ≤ 24) (hf : 2000 ≤ fl) (hM : MR n ks ws ts cn ct' ch hid a) : ∀ (d j m m' : Nat) (o : Option Nat), j + d = lwA n ks p2 → d < m → d < m' → (∀ b, o = some b → b < n) → ∃ kk r b th2, F_X7_heaviestIn_17 fl (nI n) ks ws m p1 p2 (bI o) (nI j) = some (kk, r) ∧ F_X8_heaviestIn_29 fl a m' 0 p1 p2 (bI o) (nI j) = some (b, th2) ∧ OU2 1 2 kk r b th2 := by
  have hU := lwA_le (n := n) (ks := ks) (key := p2)
  intro d
  induction d with
  | zero =>
    intro j m m' o hj hm hm' ho
    obtain ⟨m, rfl⟩ : ∃ q, m = q + 1 := ⟨m - 1, by omega⟩
    obtain ⟨m', rfl⟩ : ∃ q, m' = q + 1 := ⟨m' - 1, by omega⟩
    obtain rfl : j = lwA n ks p2 := by omega
    have e7 : F_X7_heaviestIn_17 fl (nI n) ks ws (m + 1) p1 p2 (bI o) (nI (lwA n ks p2)) = bn2 (F_X7_keyOrNone fl (nI n) ks (bI o)) fun k r => if k = 0 then some (0, r) else some (k, 0) := by
      unfold F_X7_heaviestIn_17 F_X3_size
      rw [bn_e]
      by_cases e : lwA n ks p2 < n
      · rw [if_neg (fun q => by have := (nI_leI (by omega) (by omega)).mp q; omega), p_keyOf hn (by omega), bn_e, if_pos e, if_pos (lwA_at e)]
      · rw [if_pos ((nI_leI (by omega) (by omega)).mpr (by omega))]
    rw [e7]
    unfold F_X8_heaviestIn_29 F_X8_raises
    rw [q_lowerA hn hf hM, bn_e, if_pos (show nI (lwA n ks p2) ≤ nI (lwA n ks p2) from (nI_leI (by omega) (by omega)).mpr (by omega))]
    cases o with
    | none =>
      show ∃ kk r b th2, bn2 (F_X7_keyOrNone fl (nI n) ks (-1)) _ = _ ∧ (if (0 : Int32) ≤ -1 then _ else _) = _ ∧ _
      rw [p_keyOrNoneH, bn2_e, if_neg (by decide), if_neg (by decide), bn2_e]
      exact ⟨_, _, _, _, rfl, rfl, Or.inr (Or.inr ⟨rfl, rfl, rfl⟩)⟩
    | some b =>
      have hb := ho b rfl
      show ∃ kk r b_1 th2, bn2 (F_X7_keyOrNone fl (nI n) ks (nI b)) _ = _ ∧ (if (0 : Int32) ≤ nI b then bn (F_X8_key fl a (nI b)) _ else _) = _ ∧ _
      rw [p_keyOrNone hn (by omega), if_pos hb, bn2_e, if_pos rfl, if_pos (show (0 : Int32) ≤ nI b from (nlt_iff_le _ _).mp (nI_nlt0 (by omega))), q_key (by omega), bn_e, (hM.2.2.2.2.2 b hb).1]
      exact ⟨_, _, _, _, rfl, rfl, Or.inl ⟨rfl, rfl, rfl⟩⟩
  | succ d ih =>
    intro j m m' o hj hm hm' ho
    obtain ⟨m, rfl⟩ : ∃ q, m = q + 1 := ⟨m - 1, by omega⟩
    obtain ⟨m', rfl⟩ : ∃ q, m' = q + 1 := ⟨m' - 1, by omega⟩
    have hj2 : j < n := by omega
    unfold F_X7_heaviestIn_17 F_X8_heaviestIn_29 F_X3_size
    rw [bn_e, q_lowerA hn hf hM, bn_e, if_neg (show ¬ nI n ≤ nI j from fun q => by have := (nI_leI (by omega) (by omega)).mp q; omega), if_neg (show ¬ nI (lwA n ks p2) ≤ nI j from fun q => by have := (nI_leI (by omega) (by omega)).mp q; omega), p_keyOf hn (by omega), bn_e, if_pos hj2, if_neg (lwA_lo (show j < lwA n ks p2 by omega)), p_weightOf hn (by omega), bn_e, if_pos hj2, q_weight (by omega), bn_e, (hM.2.2.2.2.2 j hj2).2.1, nI_1]
    have i1 := ih (j + 1) m m' (some j) (by omega) (by omega) (by omega) (fun b hb => by cases hb; exact hj2)
    cases o with
    | none =>
      show ∃ kk r b th2, (if (-1 : Int32) = -1 then _ else _) = _ ∧ (if (-1 : Int32) < 0 then _ else _) = _ ∧ _
      rw [if_pos rfl, if_pos (by decide)]
      exact i1
    | some b =>
      have hb := ho b rfl
      have i2 := ih (j + 1) m m' (some b) (by omega) (by omega) (by omega) ho
      show ∃ kk r b_1 th2, (if nI b = -1 then _ else bn (F_X3_weightOf fl (nI n) ws (nI b)) _) = _ ∧ (if nI b < 0 then _ else bn (F_X8_weight fl a (nI b)) _) = _ ∧ _
      rw [if_neg (nI_nm1 (by omega)), if_neg (nI_nlt0 (by omega)), p_weightOf hn (by omega), bn_e, if_pos hb, q_weight (by omega), bn_e, (hM.2.2.2.2.2 b hb).2.1]
      by_cases c : ws j ≤ ws b
      · rw [if_pos c, if_pos c]; exact i2
      · rw [if_neg c, if_neg c]; exact i1
theorem m_heaviestIn (hf : 2000 ≤ fl) (hL : LL z hid ks ws ts cn ct' ch a) : ∃ kk r b th2, F_X7_heaviestIn fl z ks ws p1 p2 = some (kk, r) ∧ F_X8_heaviestIn fl th a p1 p2 = some (b, th2) ∧ OU2 1 2 kk r b th2 := by
  obtain ⟨n, rfl, hl, hM⟩ := hL
  unfold F_X7_heaviestIn F_X8_heaviestIn F_X8_raises
  rw [p_demandRange, bn_e, q_isRange, bn_e]
  by_cases c : rR p1 p2 = true
  · have hn := hl.1
    have h1 := lw_lwA (n := n) (ks := ks) (of_decide_eq_true c).2.2
    have hU := lwA_le (n := n) (ks := ks) (key := p2)
    rw [if_pos c, if_pos c, if_pos rfl, if_neg (by decide), p_lowerKeys hl.1 hf, bn_e, q_lower hl.1 hf hM, bn_e]
    exact r_heavyL (fl := fl) (p1 := p1) (p2 := p2) hn hf hM (lwA n ks p2 - lw n ks p1) (lw n ks p1) fl fl none (by omega) (by omega) (by omega) (fun b hb => by cases hb)
  · rw [if_neg c, if_neg c, if_neg (by decide), if_pos rfl]
    exact ⟨_, _, _, _, rfl, rfl, Or.inr (Or.inl ⟨rfl, rfl, rfl⟩)⟩
theorem p_holdsN {x : Int32} (h : x < 0) : F_X3_holds fl z x = some 0 := by
  unfold F_X3_holds
  rw [if_pos h]
theorem m_keyAt (hL : LL z hid ks ws ts cn ct' ch a) : ∃ kk r b th2, F_X7_keyAt fl z ks p1 = some (kk, r) ∧ F_X8_keyAt fl th a p1 = some (b, th2) ∧ OU1 2 kk r b th2 := by
  obtain ⟨n, rfl, hl, hM⟩ := hL
  have hn := hl.1
  unfold F_X7_keyAt F_X8_keyAt F_X8_raises
  rw [gl0, c0, hM.1, q_in, bn_e]
  by_cases c : p1 < 0
  · have c2 : ¬ inR 0 (nI n - 1) p1 = true := fun q => absurd c ((le_iff_nlt _ _).mp (of_decide_eq_true q).1)
    unfold F_X7_keyOrNone
    rw [p_holdsN c, bn_e, if_pos rfl, bn2_e, if_neg (by decide), if_neg c2, if_pos rfl]
    exact ⟨_, _, _, _, rfl, rfl, Or.inr ⟨rfl, rfl, rfl⟩⟩
  · obtain ⟨j, hj, rfl⟩ := nI_of c
    rw [p_keyOrNone hn hj]
    by_cases e : j < n
    · have c2 : inR 0 (nI n - 1) (nI j) = true := by
        rw [show nI n - 1 = nI (n - 1) from pk_sub (b := 1) (by omega)]
        exact nI_inR (lo := 0) (hi := n - 1) (by omega) (by omega) (by omega)
      rw [if_pos e, if_pos c2, bn2_e, if_pos rfl, if_neg (by decide), q_key (by omega), bn_e, (hM.2.2.2.2.2 j e).1]
      exact ⟨_, _, _, _, rfl, rfl, Or.inl ⟨rfl, rfl, rfl⟩⟩
    · have c2 : ¬ inR 0 (nI n - 1) (nI j) = true := fun q => by
        have h2 := (of_decide_eq_true q).2
        by_cases n0 : n = 0
        · subst n0
          rw [Int32.le_iff_toInt_le, nI_toInt hj, show (nI 0 - 1).toInt = -1 by decide] at h2; omega
        · rw [show nI n - 1 = nI (n - 1) from pk_sub (b := 1) (by omega)] at h2
          have := (nI_leI hj (by omega)).mp h2; omega
      rw [if_neg e, if_neg c2, bn2_e, if_neg (by decide), if_pos rfl]
      exact ⟨_, _, _, _, rfl, rfl, Or.inr ⟨rfl, rfl, rfl⟩⟩
theorem m_floor (hf : 2000 ≤ fl) (hL : LL z hid ks ws ts cn ct' ch a) : ∃ kk r b th2, F_X7_floor fl z ks p1 = some (kk, r) ∧ F_X8_floor fl th a p1 = some (b, th2) ∧ OU2 1 2 kk r b th2 := by
  obtain ⟨n, rfl, hl, hM⟩ := hL
  have hn := hl.1
  unfold F_X7_floor F_X8_floor F_X8_raises
  rw [p_demandKey, bn_e, q_isKey, bn_e]
  by_cases c : inR 0 999 p1 = true
  · have hU := lwA_le (n := n) (ks := ks) (key := p1)
    rw [if_pos c, if_pos c, if_pos rfl, if_neg (show ¬ (1 : Int32) = 0 by decide), p_lowerKeys hn hf, bn_e, lwA_eq (inR_k c), q_lowerA hn hf hM, bn_e]
    by_cases e : lwA n ks p1 = 0
    · rw [e, show nI 0 - 1 = -1 by decide, p_keyOrNoneH, bn2_e, if_neg (by decide), if_pos nI_0]
      exact ⟨_, _, _, _, rfl, rfl, Or.inr (Or.inr ⟨rfl, rfl, rfl⟩)⟩
    · rw [show nI (lwA n ks p1) - 1 = nI (lwA n ks p1 - 1) from pk_sub (b := 1) (by omega), p_keyOrNone hn (by omega), if_pos (show lwA n ks p1 - 1 < n by omega), bn2_e, if_pos rfl, if_neg (nI_ne0 (by omega) (by omega)), q_key (by omega), bn_e, (hM.2.2.2.2.2 _ (show lwA n ks p1 - 1 < n by omega)).1]
      exact ⟨_, _, _, _, rfl, rfl, Or.inl ⟨rfl, rfl, rfl⟩⟩
  · rw [if_neg c, if_neg c, if_neg (by decide), if_pos rfl]
    exact ⟨_, _, _, _, rfl, rfl, Or.inr (Or.inl ⟨rfl, rfl, rfl⟩)⟩
theorem m_ceiling (hf : 2000 ≤ fl) (hL : LL z hid ks ws ts cn ct' ch a) : ∃ kk r b th2, F_X7_ceiling fl z ks p1 = some (kk, r) ∧ F_X8_ceiling fl th a p1 = some (b, th2) ∧ OU2 1 2 kk r b th2 := by
  obtain ⟨n, rfl, hl, hM⟩ := hL
  have hn := hl.1
  unfold F_X7_ceiling F_X8_ceiling F_X8_raises
  rw [p_demandKey, bn_e, q_isKey, bn_e]
  by_cases c : inR 0 999 p1 = true
  · have hU := lw_le (n := n) (ks := ks) (key := p1)
    rw [if_pos c, if_pos c, if_pos rfl, if_neg (show ¬ (1 : Int32) = 0 by decide), p_lowerKeys hn hf, bn_e, q_lower hn hf hM, bn_e, gl0, c0, hM.1, p_keyOrNone hn (by omega)]
    by_cases e : lw n ks p1 < n
    · rw [if_pos e, bn2_e, if_pos rfl, if_neg (fun q => by have := (nI_eq (by omega) (by omega)).mp q; omega), q_key (by omega), bn_e, (hM.2.2.2.2.2 _ e).1]
      exact ⟨_, _, _, _, rfl, rfl, Or.inl ⟨rfl, rfl, rfl⟩⟩
    · rw [if_neg e, bn2_e, if_neg (by decide), if_pos (show nI (lw n ks p1) = nI n by rw [show lw n ks p1 = n by omega])]
      exact ⟨_, _, _, _, rfl, rfl, Or.inr (Or.inr ⟨rfl, rfl, rfl⟩)⟩
  · rw [if_neg c, if_neg c, if_neg (by decide), if_pos rfl]
    exact ⟨_, _, _, _, rfl, rfl, Or.inr (Or.inl ⟨rfl, rfl, rfl⟩)⟩
theorem m_placeOf (hf : 2000 ≤ fl) (hL : LL z hid ks ws ts cn ct' ch a) : ∃ kk r y1 y2 y3 y4 y5 b th2 g2 f2 way2, F_X7_placeOf fl z hid ks ts x1 x2 x3 x4 x5 p1 p2 = some (kk, r, y1, y2, y3, y4, y5) ∧ F_X8_placeOf fl th g f a way p1 p2 = some (b, th2, g2, f2, way2) ∧ OU2 1 2 kk r b th2 := by
  obtain ⟨n, rfl, hl, hM⟩ := hL
  have hm := LL_m hl hf
  have hn := hl.1
  unfold F_X7_placeOf F_X8_placeOf F_X8_raises F_X6_place
  rw [p_demandKey, bn_e, q_isKey, bn_e]
  by_cases c : inR 0 999 p1 = true
  · obtain ⟨way', e, ew⟩ := q_searches (fl := fl) (key := p1) (g := g) (f := f) (way := way) hl.1 hf hl.2.2.1 hm hM
    obtain ⟨s1, s2, s3⟩ := SR_len (ks := ks) (hid := hid) (key := p1) hm
    rw [if_pos c, if_pos c, if_pos rfl, if_neg (show ¬ (1 : Int32) = 0 by decide), e, bn4_e, q_in, bn_e]
    by_cases d : p2 < 0
    · rw [if_pos d, if_neg (show ¬ inR 0 (nI (SR n ks ts hid p1).1.length) p2 = true from fun q => absurd d ((le_iff_nlt _ _).mp (of_decide_eq_true q).1)), if_pos rfl]
      exact ⟨_, _, _, _, _, _, _, _, _, _, _, _, rfl, rfl, Or.inr (Or.inr ⟨rfl, rfl, rfl⟩)⟩
    · obtain ⟨G, hG, rfl⟩ := nI_of d
      have hGi : (nI G).toInt = G := nI_toInt hG
      obtain ⟨r1, r2⟩ := p_reaches (fl := fl) (ks := ks) (hid := hid) (key := p1) (x1 := x1) (x2 := x2) (x3 := x3) (x4 := x4) (x5 := x5) (G := nI G) hn hf hl.2.2.1 hm (by rw [hGi]; omega)
      rw [if_neg d]
      by_cases c2 : G ≤ (SR n ks ts hid p1).1.length
      · obtain ⟨lv, fb, e2⟩ := r2 (by rw [hGi]; omega)
        rw [hGi, Int.toNat_natCast] at e2
        rw [e2, bn6_e, if_neg (by decide), if_pos (show inR 0 (nI (SR n ks ts hid p1).1.length) (nI G) = true from nI_inR (lo := 0) (by omega) c2 (by omega)), if_neg (show ¬ (1 : Int32) = 0 by decide), bn_e]
        by_cases g0 : G = 0
        · subst g0
          rw [if_pos nI_0, show at_ 0 (SR n ks ts hid p1).1 0 = 0 from if_pos rfl, pl_0, p_keyOfH, bn_e]
          exact ⟨_, _, _, _, _, _, _, _, _, _, _, _, rfl, rfl, Or.inl ⟨rfl, rfl, rfl⟩⟩
        · have hx : (SR n ks ts hid p1).1.getD (G - 1) 0 < n := sr_mem _ _ _ _ (by unfold SR at c2; omega)
          rw [if_neg (nI_ne0 (by omega) (by omega)), show at_ 0 (SR n ks ts hid p1).1 G = (SR n ks ts hid p1).1.getD (G - 1) 0 + 1 from if_neg g0, pl_s, p_keyOf hn (by omega), bn_e, if_pos hx, show nI G - 1 = nI (G - 1) from pk_sub (b := 1) (by omega), g_lit (by omega) (by decide), nI_clamp (by omega), ew (G - 1) (by omega), q_key (by omega), bn_e, (hM.2.2.2.2.2 _ hx).1]
          exact ⟨_, _, _, _, _, _, _, _, _, _, _, _, rfl, rfl, Or.inl ⟨rfl, rfl, rfl⟩⟩
      · rw [r1 (by rw [hGi]; omega), bn6_e, if_pos rfl, if_neg (show ¬ inR 0 (nI (SR n ks ts hid p1).1.length) (nI G) = true from fun q => c2 ((nI_leI (by omega) (by omega)).mp (of_decide_eq_true q).2)), if_pos rfl]
        exact ⟨_, _, _, _, _, _, _, _, _, _, _, _, rfl, rfl, Or.inr (Or.inr ⟨rfl, rfl, rfl⟩)⟩
  · rw [if_neg c, if_neg c, if_neg (by decide), if_pos rfl]
    exact ⟨_, _, _, _, _, _, _, _, _, _, _, _, rfl, rfl, Or.inr (Or.inl ⟨rfl, rfl, rfl⟩)⟩
