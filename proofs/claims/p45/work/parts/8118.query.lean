/-! questions about keys -/
variable {fl n : Nat} {ks ws ts a : Nat → Int32} {key lev hid cn ct' ch z : Int32} {th g f p1 p2 x1 x2 x3 x4 x5 : Int32} {way : Nat → Int32}
theorem p_demandKey {x : Int32} : F_X7_demandKey fl x = some (if inR 0 999 x = true then 0 else 1) := by
  unfold F_X7_demandKey inR
  by_cases h1 : x < 0
  · rw [if_pos h1, if_neg (fun q => absurd h1 ((le_iff_nlt _ _).mp (of_decide_eq_true q).1))]
  · rw [if_neg h1]
    by_cases h2 : x ≤ 999
    · rw [if_pos h2, if_pos (decide_eq_true ⟨(nlt_iff_le _ _).mp h1, h2⟩)]
    · rw [if_neg h2, if_neg (fun q => h2 (of_decide_eq_true q).2)]
theorem p_demandLevel {x : Int32} : F_X7_demandLevel fl x = some (if inR 0 4 x = true then 0 else 3) := by
  unfold F_X7_demandLevel inR
  by_cases h1 : x < 0
  · rw [if_pos h1, if_neg (fun q => absurd h1 ((le_iff_nlt _ _).mp (of_decide_eq_true q).1))]
  · rw [if_neg h1]
    by_cases h2 : x < 5
    · have h3 : x ≤ 4 := by
        rw [Int32.lt_iff_toInt_lt, show (5 : Int32).toInt = 5 by decide] at h2
        rw [Int32.le_iff_toInt_le, show (4 : Int32).toInt = 4 by decide]; omega
      rw [if_pos h2, if_pos (decide_eq_true ⟨(nlt_iff_le _ _).mp h1, h3⟩)]
    · rw [if_neg h2, if_neg (fun q => h2 (by
        have h3 := (of_decide_eq_true q).2
        rw [Int32.le_iff_toInt_le, show (4 : Int32).toInt = 4 by decide] at h3
        rw [Int32.lt_iff_toInt_lt, show (5 : Int32).toInt = 5 by decide]; omega))]
theorem p_demandFolder (hn : n ≤ 24) (hf : 2000 ≤ fl) {k : Int32} : F_X7_demandFolder fl (nI n) ks k = some (match pw n ks k with | some j => (0, nI j) | none => (2, 0)) := by
  unfold F_X7_demandFolder
  rw [p_placeWith hn hf, bn_e]
  cases e : pw n ks k with
  | some j =>
    have hj := (pw_some e).1
    show (if nI j = -1 then _ else _) = _
    rw [if_neg (nI_nm1 (by omega))]
  | none =>
    show (if (-1 : Int32) = -1 then _ else _) = _
    rw [if_pos rfl]
theorem sr_mem : ∀ (f q L i : Nat), i < (sr n ks ts hid key f q L).1.length → (sr n ks ts hid key f q L).1.getD i 0 < n := by
  intro f
  induction f with
  | zero => intro q L i h; exact absurd h (Nat.not_lt_zero _)
  | succ f ih =>
    intro q L i h
    rw [sr] at h ⊢
    split at h
    · rename_i c
      rw [if_pos c]
      cases i with
      | zero => exact c.1
      | succ i => exact ih _ _ i (Nat.lt_of_succ_lt_succ h)
    · rename_i c
      rw [if_neg c]
      split at h
      · rename_i c2; exact absurd h (Nat.not_lt_zero _)
      · rename_i c2; rw [if_neg c2]; exact ih _ _ i h
theorem LL_m (h : LI n ks ts hid) (hf : 2000 ≤ fl) : mx n ts n ≤ 5 := (p_highestLevel (fl := fl) h.1 hf h.2.2.1).2
theorem m_rank (hf : 2000 ≤ fl) (hL : LL z hid ks ws ts cn ct' ch a) : ∃ kk r y1 y2 y3 y4 y5 b th2, F_X7_rank fl z hid ks ts x1 x2 x3 x4 x5 p1 = some (kk, r, y1, y2, y3, y4, y5) ∧ F_X8_rank fl th a p1 = some (b, th2) ∧ OU1 1 kk r b th2 := by
  obtain ⟨n, rfl, hl, hM⟩ := hL
  have hm := LL_m hl hf
  unfold F_X7_rank F_X8_rank F_X8_raises
  rw [p_demandKey, bn_e, q_isKey, bn_e]
  by_cases c : inR 0 999 p1 = true
  · rw [if_pos c, if_pos c, if_pos rfl, if_neg (by decide), p_spansTo hl.1 hf hl.2.2.1 hm, bn6_e, q_lower hl.1 hf hM, bn_e, SR_end hl.1 hl.2.2.1 hl.2.1 hm]
    exact ⟨_, _, _, _, _, _, _, _, _, rfl, rfl, Or.inl ⟨rfl, rfl, rfl⟩⟩
  · rw [if_neg c, if_neg c, if_neg (by decide), if_pos rfl]
    exact ⟨_, _, _, _, _, _, _, _, _, rfl, rfl, Or.inr ⟨rfl, rfl, rfl⟩⟩
theorem m_rankAgain (hf : 2000 ≤ fl) (hL : LL z hid ks ws ts cn ct' ch a) : ∃ kk r b th2, F_X7_rankAgain fl z ks p1 = some (kk, r) ∧ F_X8_rankAgain fl th a p1 = some (b, th2) ∧ OU1 1 kk r b th2 := by
  obtain ⟨n, rfl, hl, hM⟩ := hL
  unfold F_X7_rankAgain F_X8_rankAgain F_X8_rank F_X8_raises
  rw [p_demandKey, bn_e, q_isKey, bn_e]
  by_cases c : inR 0 999 p1 = true
  · rw [if_pos c, if_pos c, if_pos rfl, if_neg (by decide), p_lowerKeys hl.1 hf, bn_e, q_lower hl.1 hf hM, bn_e]
    exact ⟨_, _, _, _, rfl, rfl, Or.inl ⟨rfl, rfl, rfl⟩⟩
  · rw [if_neg c, if_neg c, if_neg (by decide), if_pos rfl]
    exact ⟨_, _, _, _, rfl, rfl, Or.inr ⟨rfl, rfl, rfl⟩⟩
theorem m_steps (hf : 2000 ≤ fl) (hL : LL z hid ks ws ts cn ct' ch a) : ∃ kk r y1 y2 y3 y4 y5 b th2 g2 f2 way2, F_X7_steps fl z hid ks ts x1 x2 x3 x4 x5 p1 = some (kk, r, y1, y2, y3, y4, y5) ∧ F_X8_steps fl th g f a way p1 = some (b, th2, g2, f2, way2) ∧ OU1 1 kk r b th2 := by
  obtain ⟨n, rfl, hl, hM⟩ := hL
  have hm := LL_m hl hf
  unfold F_X7_steps F_X8_steps F_X8_raises
  rw [p_demandKey, bn_e, q_isKey, bn_e]
  by_cases c : inR 0 999 p1 = true
  · obtain ⟨way', e, -⟩ := q_searches (fl := fl) (key := p1) (g := g) (f := f) (way := way) hl.1 hf hl.2.2.1 hm hM
    rw [if_pos c, if_pos c, if_pos rfl, if_neg (by decide), p_stepsTo hl.1 hf hl.2.2.1 hm, bn6_e, e, bn4_e]
    exact ⟨_, _, _, _, _, _, _, _, _, _, _, _, rfl, rfl, Or.inl ⟨rfl, rfl, rfl⟩⟩
  · rw [if_neg c, if_neg c, if_neg (by decide), if_pos rfl]
    exact ⟨_, _, _, _, _, _, _, _, _, _, _, _, rfl, rfl, Or.inr ⟨rfl, rfl, rfl⟩⟩
theorem m_stepsAgain (hf : 2000 ≤ fl) (hL : LL z hid ks ws ts cn ct' ch a) : ∃ kk r b th2 g2 f2 way2, F_X7_stepsAgain fl z hid ks ts p1 = some (kk, r) ∧ F_X8_stepsAgain fl th g f a way p1 = some (b, th2, g2, f2, way2) ∧ OU1 1 kk r b th2 := by
  obtain ⟨n, rfl, hl, hM⟩ := hL
  have hm := LL_m hl hf
  unfold F_X7_stepsAgain F_X8_stepsAgain F_X8_steps F_X8_raises
  rw [p_demandKey, bn_e, q_isKey, bn_e]
  by_cases c : inR 0 999 p1 = true
  · obtain ⟨way', e, -⟩ := q_searches (fl := fl) (key := p1) (g := g) (f := f) (way := way) hl.1 hf hl.2.2.1 hm hM
    rw [if_pos c, if_pos c, if_pos rfl, if_neg (by decide), p_stepsBack hl.1 hf hl.2.2.1 hl.2.1 hm, bn_e, e, bn4_e]
    exact ⟨_, _, _, _, _, _, _, rfl, rfl, Or.inl ⟨rfl, rfl, rfl⟩⟩
  · rw [if_neg c, if_neg c, if_neg (by decide), if_pos rfl]
    exact ⟨_, _, _, _, _, _, _, rfl, rfl, Or.inr ⟨rfl, rfl, rfl⟩⟩
theorem m_falls (hf : 2000 ≤ fl) (hL : LL z hid ks ws ts cn ct' ch a) : ∃ kk r y1 y2 y3 y4 y5 b th2 g2 f2 way2, F_X7_falls fl z hid ks ts x1 x2 x3 x4 x5 p1 = some (kk, r, y1, y2, y3, y4, y5) ∧ F_X8_falls fl th g f a way p1 = some (b, th2, g2, f2, way2) ∧ OU1 1 kk r b th2 := by
  obtain ⟨n, rfl, hl, hM⟩ := hL
  have hm := LL_m hl hf
  unfold F_X7_falls F_X8_falls F_X8_raises
  rw [p_demandKey, bn_e, q_isKey, bn_e]
  by_cases c : inR 0 999 p1 = true
  · obtain ⟨way', e, -⟩ := q_searches (fl := fl) (key := p1) (g := g) (f := f) (way := way) hl.1 hf hl.2.2.1 hm hM
    rw [if_pos c, if_pos c, if_pos rfl, if_neg (by decide), p_fallsTo hl.1 hf hl.2.2.1 hm, bn6_e, e, bn4_e]
    exact ⟨_, _, _, _, _, _, _, _, _, _, _, _, rfl, rfl, Or.inl ⟨rfl, rfl, rfl⟩⟩
  · rw [if_neg c, if_neg c, if_neg (by decide), if_pos rfl]
    exact ⟨_, _, _, _, _, _, _, _, _, _, _, _, rfl, rfl, Or.inr ⟨rfl, rfl, rfl⟩⟩
theorem m_folderOf (hf : 2000 ≤ fl) (hL : LL z hid ks ws ts cn ct' ch a) : ∃ kk r y1 y2 y3 y4 y5 b th2 g2 f2 way2, F_X7_folderOf fl z hid ks ws ts x1 x2 x3 x4 x5 p1 p2 = some (kk, r, y1, y2, y3, y4, y5) ∧ F_X8_folderOf fl th g f a way p1 p2 = some (b, th2, g2, f2, way2) ∧ OU2 1 2 kk r b th2 := by
  obtain ⟨n, rfl, hl, hM⟩ := hL
  have hm := LL_m hl hf
  unfold F_X7_folderOf F_X8_folderOf F_X8_raises
  rw [p_demandKey, bn_e, q_isKey, bn_e]
  by_cases c : inR 0 999 p1 = true
  · obtain ⟨way', e, -⟩ := q_searches (fl := fl) (key := p1) (g := g) (f := f) (way := way) hl.1 hf hl.2.2.1 hm hM
    rw [if_pos c, if_pos c, if_pos rfl, if_neg (show ¬ (1 : Int32) = 0 by decide), q_in, bn_e]
    by_cases d1 : p2 < 0
    · rw [if_pos d1, if_neg (show ¬ inR 0 3 p2 = true from fun q => absurd d1 ((le_iff_nlt _ _).mp (of_decide_eq_true q).1)), if_pos rfl]
      exact ⟨_, _, _, _, _, _, _, _, _, _, _, _, rfl, rfl, Or.inr (Or.inl ⟨rfl, rfl, rfl⟩)⟩
    · rw [if_neg d1]
      by_cases d2 : p2 ≤ 3
      · rw [if_pos d2, if_pos (show inR 0 3 p2 = true from decide_eq_true ⟨(nlt_iff_le _ _).mp d1, d2⟩), if_neg (show ¬ (1 : Int32) = 0 by decide), p_demandFolder hl.1 hf, q_find hl.1 hf hM]
        cases e2 : pw n ks p1 with
        | some j =>
          have hj := (pw_some e2).1
          have hn := hl.1
          obtain ⟨-, m2, m3⟩ := hM.2.2.2.2.2 j hj
          show ∃ kk r y1 y2 y3 y4 y5 b th2 g2 f2 way2, bn2 (some (0, nI j)) _ = _ ∧ bn (some (nI j)) _ = _ ∧ _
          rw [bn2_e, bn_e, if_pos rfl, if_pos (show (0 : Int32) ≤ nI j from (nlt_iff_le _ _).mp (nI_nlt0 (by omega))), q_weight (by omega), q_rungs (by omega), p_weightOf hn (by omega), p_rungsOf hn (by omega), p_stepsTo hn hf hl.2.2.1 hm, bn6_e, e, bn4_e, bn_e, bn_e, bn_e, bn_e, if_pos hj, if_pos hj, m2, m3]
          by_cases t0 : p2 = 0
          · rw [if_pos t0, if_pos t0]; exact ⟨_, _, _, _, _, _, _, _, _, _, _, _, rfl, rfl, Or.inl ⟨rfl, rfl, rfl⟩⟩
          · rw [if_neg t0, if_neg t0]
            by_cases t1 : p2 = 1
            · rw [if_pos t1, if_pos t1]; exact ⟨_, _, _, _, _, _, _, _, _, _, _, _, rfl, rfl, Or.inl ⟨rfl, rfl, rfl⟩⟩
            · rw [if_neg t1, if_neg t1]
              by_cases t2 : p2 = 2
              · rw [if_pos t2, if_pos t2]; exact ⟨_, _, _, _, _, _, _, _, _, _, _, _, rfl, rfl, Or.inl ⟨rfl, rfl, rfl⟩⟩
              · rw [if_neg t2, if_neg t2]; exact ⟨_, _, _, _, _, _, _, _, _, _, _, _, rfl, rfl, Or.inl ⟨rfl, rfl, rfl⟩⟩
        | none =>
          show ∃ kk r y1 y2 y3 y4 y5 b th2 g2 f2 way2, bn2 (some (2, 0)) _ = _ ∧ bn (some (-1)) _ = _ ∧ _
          rw [bn2_e, bn_e, if_neg (by decide), if_neg (by decide)]
          exact ⟨_, _, _, _, _, _, _, _, _, _, _, _, rfl, rfl, Or.inr (Or.inr ⟨rfl, rfl, rfl⟩)⟩
      · rw [if_neg d2, if_neg (show ¬ inR 0 3 p2 = true from fun q => d2 (of_decide_eq_true q).2), if_pos rfl]
        exact ⟨_, _, _, _, _, _, _, _, _, _, _, _, rfl, rfl, Or.inr (Or.inl ⟨rfl, rfl, rfl⟩)⟩
  · rw [if_neg c, if_neg c, if_neg (by decide), if_pos rfl]
    exact ⟨_, _, _, _, _, _, _, _, _, _, _, _, rfl, rfl, Or.inr (Or.inl ⟨rfl, rfl, rfl⟩)⟩
