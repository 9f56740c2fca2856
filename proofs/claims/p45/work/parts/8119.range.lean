/-! questions about ranges -/
variable {fl n : Nat} {ks ws ts a : Nat → Int32} {key lev hid cn ct' ch z : Int32} {th g f p1 p2 x1 x2 x3 x4 x5 : Int32} {way : Nat → Int32}
def rR (x y : Int32) : Bool := decide (inR 0 999 x = true ∧ inR 0 999 y = true ∧ x ≤ y)
theorem p_demandRange : F_X7_demandRange fl p1 p2 = some (if rR p1 p2 = true then 0 else 1) := by
  unfold F_X7_demandRange
  rw [p_demandKey, bn_e, p_demandKey, bn_e]
  by_cases c1 : inR 0 999 p1 = true
  · rw [if_pos c1, if_pos (show (0 : Nat) = 0 from rfl)]
    by_cases c2 : inR 0 999 p2 = true
    · rw [if_pos c2, if_pos (show (0 : Nat) = 0 from rfl)]
      by_cases c3 : p1 ≤ p2
      · rw [if_pos c3, if_pos (show rR p1 p2 = true from decide_eq_true ⟨c1, c2, c3⟩)]
      · rw [if_neg c3, if_neg (show ¬ rR p1 p2 = true from fun q => c3 (of_decide_eq_true q).2.2)]
    · rw [if_neg c2, if_neg (show ¬ (1 : Nat) = 0 by decide), if_neg (show ¬ rR p1 p2 = true from fun q => c2 (of_decide_eq_true q).2.1)]
  · rw [if_neg c1, if_neg (show ¬ (1 : Nat) = 0 by decide), if_neg (show ¬ rR p1 p2 = true from fun q => c1 (of_decide_eq_true q).1)]
theorem q_isRange : F_X8_isRange fl p1 p2 = some (if rR p1 p2 = true then 1 else 0) := by
  unfold F_X8_isRange
  rw [q_isKey, bn_e, q_isKey, bn_e]
  by_cases c1 : inR 0 999 p1 = true
  · rw [if_pos c1, if_neg (show ¬ (1 : Int32) = 0 by decide)]
    by_cases c2 : inR 0 999 p2 = true
    · rw [if_pos c2, if_neg (show ¬ (1 : Int32) = 0 by decide)]
      by_cases c3 : p1 ≤ p2
      · rw [if_neg (fun q => (le_iff_nlt _ _).mp c3 q), if_pos (show rR p1 p2 = true from decide_eq_true ⟨c1, c2, c3⟩)]
      · rw [if_pos (show p2 < p1 from Decidable.byContradiction (fun q => c3 ((nlt_iff_le _ _).mp q))), if_neg (show ¬ rR p1 p2 = true from fun q => c3 (of_decide_eq_true q).2.2)]
    · rw [if_neg c2, if_pos (show (0 : Int32) = 0 from rfl), if_neg (show ¬ rR p1 p2 = true from fun q => c2 (of_decide_eq_true q).2.1)]
  · rw [if_neg c1, if_pos (show (0 : Int32) = 0 from rfl), if_neg (show ¬ rR p1 p2 = true from fun q => c1 (of_decide_eq_true q).1)]
theorem lwA_lo {i : Nat} (h : i < lwA n ks key) : ¬ key < ks i := by
  have h2 := fi_no _ _ _ _ (Nat.zero_le i) h
  intro q
  have h3 : ¬ (ks i < key ∨ ks i = key) := fun e => by
    rw [Int32.lt_iff_toInt_lt] at q
    rcases e with e | e
    · rw [Int32.lt_iff_toInt_lt] at e; omega
    · rw [e] at q; omega
  rw [decide_eq_false h3] at h2; cases h2
theorem lwA_at (h : lwA n ks key < n) : key < ks (lwA n ks key) := by
  have h2 := fi_yes (fun i => !decide (ks i < key ∨ ks i = key)) n 0 (by unfold lwA at h; omega)
  have h3 : (!decide (ks (lwA n ks key) < key ∨ ks (lwA n ks key) = key)) = true := h2
  by_cases e : ks (lwA n ks key) < key ∨ ks (lwA n ks key) = key
  · rw [decide_eq_true e] at h3; cases h3
  · exact lt_le_ne ((nlt_iff_le _ _).mp (fun q => e (Or.inl q))) (fun q => e (Or.inr q.symm))
theorem lw_lwA (h : p1 ≤ p2) : lw n ks p1 ≤ lwA n ks p2 := by
  rcases Nat.lt_or_ge (lwA n ks p2) (lw n ks p1) with c | c
  · have h1 := lw_lt c
    have h2 := lwA_at (n := n) (ks := ks) (key := p2) (by have := lw_le (n := n) (ks := ks) (key := p1); omega)
    exact absurd h ((fun q => (le_iff_nlt _ _).mp q (lt_tr h2 h1)))
  · exact c
theorem lwA_eq (hk : ∃ q, q ≤ 999 ∧ key = nI q) : lw n ks (key + 1) = lwA n ks key := by
  obtain ⟨q, hq, rfl⟩ := hk
  unfold lw lwA
  refine fi_cong _ _ (fun i _ _ => ?_)
  rw [nI_1]
  by_cases c : nI (q + 1) ≤ ks i
  · have c2 : ¬ (ks i < nI q ∨ ks i = nI q) := fun e => by
      rw [Int32.le_iff_toInt_le, nI_toInt (by omega)] at c
      rcases e with e | e
      · rw [Int32.lt_iff_toInt_lt, nI_toInt (by omega)] at e; omega
      · rw [e, nI_toInt (by omega)] at c; omega
    rw [decide_eq_true c, decide_eq_false c2]; rfl
  · have c2 : ks i < nI q ∨ ks i = nI q := by
      rw [Int32.le_iff_toInt_le, nI_toInt (by omega)] at c
      by_cases e : ks i = nI q
      · exact Or.inr e
      · refine Or.inl ?_
        have e2 : (ks i).toInt ≠ (nI q).toInt := fun z => e (Int32.toInt_inj.mp z)
        rw [nI_toInt (by omega)] at e2
        rw [Int32.lt_iff_toInt_lt, nI_toInt (by omega)]; omega
    rw [decide_eq_false c, decide_eq_true c2]; rfl
theorem m_count (hf : 2000 ≤ fl) (hL : LL z hid ks ws ts cn ct' ch a) : ∃ kk r y1 y2 y3 y4 y5 b th2, F_X7_count fl z hid ks ts x1 x2 x3 x4 x5 p1 p2 = some (kk, r, y1, y2, y3, y4, y5) ∧ F_X8_count fl th a p1 p2 = some (b, th2) ∧ OU1 1 kk r b th2 := by
  obtain ⟨n, rfl, hl, hM⟩ := hL
  have hm := LL_m hl hf
  unfold F_X7_count F_X8_count F_X8_raises
  rw [p_demandRange, bn_e, q_isRange, bn_e]
  by_cases c : rR p1 p2 = true
  · rw [if_pos c, if_pos c, if_pos rfl, if_neg (by decide), p_spansTo hl.1 hf hl.2.2.1 hm, bn6_e, p_spansTo hl.1 hf hl.2.2.1 hm, bn6_e, q_lower hl.1 hf hM, q_lowerA hl.1 hf hM, bn_e, bn_e, SR_end hl.1 hl.2.2.1 hl.2.1 hm, SR_end hl.1 hl.2.2.1 hl.2.1 hm, lwA_eq (inR_k (of_decide_eq_true c).2.1)]
    exact ⟨_, _, _, _, _, _, _, _, _, rfl, rfl, Or.inl ⟨rfl, rfl, rfl⟩⟩
  · rw [if_neg c, if_neg c, if_neg (by decide), if_pos rfl]
    exact ⟨_, _, _, _, _, _, _, _, _, rfl, rfl, Or.inr ⟨rfl, rfl, rfl⟩⟩
theorem p_countL (hn : n ≤ 24) : ∀ (d j c m : Nat), j + d = lwA n ks p2 → d < m → F_X7_countAgain_17 fl (nI n) ks m p1 p2 (nI c) (nI j) = some (0, nI (c + d)) := by
  have hU := lwA_le (n := n) (ks := ks) (key := p2)
  intro d
  induction d with
  | zero =>
    intro j c m hj hm
    obtain ⟨m, rfl⟩ : ∃ q, m = q + 1 := ⟨m - 1, by omega⟩
    obtain rfl : j = lwA n ks p2 := by omega
    unfold F_X7_countAgain_17 F_X3_size
    rw [bn_e]
    by_cases e : lwA n ks p2 < n
    · rw [if_neg (fun q => by have := (nI_leI (by omega) (by omega)).mp q; omega), p_keyOf hn (by omega), bn_e, if_pos e, if_pos (lwA_at e)]; rfl
    · rw [if_pos ((nI_leI (by omega) (by omega)).mpr (by omega))]; rfl
  | succ d ih =>
    intro j c m hj hm
    obtain ⟨m, rfl⟩ : ∃ q, m = q + 1 := ⟨m - 1, by omega⟩
    unfold F_X7_countAgain_17 F_X3_size
    rw [bn_e, if_neg (fun q => by have := (nI_leI (by omega) (by omega)).mp q; omega), p_keyOf hn (by omega), bn_e, if_pos (show j < n by omega), if_neg (lwA_lo (show j < lwA n ks p2 by omega)), nI_1, nI_1, ih (j + 1) (c + 1) m (by omega) (by omega), show c + 1 + d = c + (d + 1) by omega]
theorem m_countAgain (hf : 2000 ≤ fl) (hL : LL z hid ks ws ts cn ct' ch a) : ∃ kk r b th2, F_X7_countAgain fl z ks p1 p2 = some (kk, r) ∧ F_X8_countAgain fl th a p1 p2 = some (b, th2) ∧ OU1 1 kk r b th2 := by
  obtain ⟨n, rfl, hl, hM⟩ := hL
  unfold F_X7_countAgain F_X8_countAgain F_X8_count F_X8_raises
  rw [p_demandRange, bn_e, q_isRange, bn_e]
  by_cases c : rR p1 p2 = true
  · have hn := hl.1
    have h1 := lw_lwA (n := n) (ks := ks) (of_decide_eq_true c).2.2
    have hU := lwA_le (n := n) (ks := ks) (key := p2)
    have e := p_countL (fl := fl) (ks := ks) (p1 := p1) (p2 := p2) hl.1 (lwA n ks p2 - lw n ks p1) (lw n ks p1) 0 fl (by omega) (by omega)
    rw [nI_0, Nat.zero_add] at e
    rw [if_pos c, if_pos c, if_pos rfl, if_neg (by decide), p_lowerKeys hl.1 hf, bn_e, e, q_lower hl.1 hf hM, q_lowerA hl.1 hf hM, bn_e, bn_e, pk_sub h1, bn2_e]
    exact ⟨_, _, _, _, rfl, rfl, Or.inl ⟨rfl, rfl, rfl⟩⟩
  · rw [if_neg c, if_neg c, if_neg (by decide), if_pos rfl]
    exact ⟨_, _, _, _, rfl, rfl, Or.inr ⟨rfl, rfl, rfl⟩⟩
theorem r_weightL (hn : n ≤ 24) (hf : 2000 ≤ fl) (hM : MR n ks ws ts cn ct' ch hid a) {T : Int32} : ∀ (d j m m' : Nat) (c : Int32), j + d = lwA n ks p2 → d < m → d < m' → ∃ v, F_X7_weightIn_17 fl (nI n) ks ws m p1 p2 c (nI j) = some (0, v) ∧ F_X8_weightIn_29 fl a m' T p1 p2 c (nI j) = some (v, T) := by
  have hU := lwA_le (n := n) (ks := ks) (key := p2)
  intro d
  induction d with
  | zero =>
    intro j m m' c hj hm hm'
    obtain ⟨m, rfl⟩ : ∃ q, m = q + 1 := ⟨m - 1, by omega⟩
    obtain ⟨m', rfl⟩ : ∃ q, m' = q + 1 := ⟨m' - 1, by omega⟩
    obtain rfl : j = lwA n ks p2 := by omega
    unfold F_X7_weightIn_17 F_X8_weightIn_29 F_X3_size
    rw [bn_e, q_lowerA hn hf hM, bn_e, if_pos (show nI (lwA n ks p2) ≤ nI (lwA n ks p2) from (nI_leI (by omega) (by omega)).mpr (by omega))]
    by_cases e : lwA n ks p2 < n
    · rw [if_neg (fun q => by have := (nI_leI (by omega) (by omega)).mp q; omega), p_keyOf hn (by omega), bn_e, if_pos e, if_pos (lwA_at e)]; exact ⟨c, rfl, rfl⟩
    · rw [if_pos ((nI_leI (by omega) (by omega)).mpr (by omega))]; exact ⟨c, rfl, rfl⟩
  | succ d ih =>
    intro j m m' c hj hm hm'
    obtain ⟨m, rfl⟩ : ∃ q, m = q + 1 := ⟨m - 1, by omega⟩
    obtain ⟨m', rfl⟩ : ∃ q, m' = q + 1 := ⟨m' - 1, by omega⟩
    unfold F_X7_weightIn_17 F_X8_weightIn_29 F_X3_size
    rw [bn_e, q_lowerA hn hf hM, bn_e, if_neg (show ¬ nI n ≤ nI j from fun q => by have := (nI_leI (by omega) (by omega)).mp q; omega), if_neg (show ¬ nI (lwA n ks p2) ≤ nI j from fun q => by have := (nI_leI (by omega) (by omega)).mp q; omega), p_keyOf hn (by omega), bn_e, if_pos (show j < n by omega), if_neg (lwA_lo (show j < lwA n ks p2 by omega)), p_weightOf hn (by omega), bn_e, if_pos (show j < n by omega), q_weight (by omega), bn_e, (hM.2.2.2.2.2 j (by omega)).2.1, nI_1]
    exact ih (j + 1) m m' _ (by omega) (by omega) (by omega)
theorem m_weightIn (hf : 2000 ≤ fl) (hL : LL z hid ks ws ts cn ct' ch a) : ∃ kk r b th2, F_X7_weightIn fl z ks ws p1 p2 = some (kk, r) ∧ F_X8_weightIn fl th a p1 p2 = some (b, th2) ∧ OU1 1 kk r b th2 := by
  obtain ⟨n, rfl, hl, hM⟩ := hL
  unfold F_X7_weightIn F_X8_weightIn F_X8_raises
  rw [p_demandRange, bn_e, q_isRange, bn_e]
  by_cases c : rR p1 p2 = true
  · have hn := hl.1
    have h1 := lw_lwA (n := n) (ks := ks) (of_decide_eq_true c).2.2
    have hU := lwA_le (n := n) (ks := ks) (key := p2)
    obtain ⟨v, e1, e2⟩ := r_weightL (fl := fl) (p1 := p1) (p2 := p2) (T := 0) hn hf hM (lwA n ks p2 - lw n ks p1) (lw n ks p1) fl fl 0 (by omega) (by omega) (by omega)
    rw [if_pos c, if_pos c, if_pos rfl, if_neg (by decide), p_lowerKeys hl.1 hf, bn_e, e1, q_lower hl.1 hf hM, bn_e, e2]
    exact ⟨_, _, _, _, rfl, rfl, Or.inl ⟨rfl, rfl, rfl⟩⟩
  · rw [if_neg c, if_neg c, if_neg (by decide), if_pos rfl]
    exact ⟨_, _, _, _, rfl, rfl, Or.inr ⟨rfl, rfl, rfl⟩⟩
