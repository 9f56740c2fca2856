/-! questions about levels, and others -/
variable {fl n : Nat} {ks ws ts a : Nat → Int32} {key lev hid cn ct' ch z : Int32} {th g f p1 p2 x1 x2 x3 x4 x5 : Int32} {way : Nat → Int32}
theorem m_levelSize (hf : 2000 ≤ fl) (hL : LL z hid ks ws ts cn ct' ch a) : ∃ kk r b th2, F_X7_levelSize fl z ts p1 = some (kk, r) ∧ F_X8_levelSize fl th a p1 = some (b, th2) ∧ OU1 3 kk r b th2 := by
  obtain ⟨n, rfl, hl, hM⟩ := hL
  unfold F_X7_levelSize F_X8_levelSize F_X8_raises
  rw [p_demandLevel, bn_e, q_isLevel, bn_e]
  by_cases c : inR 0 4 p1 = true
  · rw [if_pos c, if_pos c, if_pos rfl, if_neg (by decide), p_foldersOn hl.1 hf, bn_e, q_sizeOf hl.1 hf hM, bn_e]
    exact ⟨_, _, _, _, rfl, rfl, Or.inl ⟨rfl, rfl, rfl⟩⟩
  · rw [if_neg c, if_neg c, if_neg (by decide), if_pos rfl]
    exact ⟨_, _, _, _, rfl, rfl, Or.inr ⟨rfl, rfl, rfl⟩⟩
theorem m_headSpan (hf : 2000 ≤ fl) (hL : LL z hid ks ws ts cn ct' ch a) : ∃ kk r b th2, F_X7_headSpan fl z ts p1 = some (kk, r) ∧ F_X8_headSpan fl th a p1 = some (b, th2) ∧ OU1 3 kk r b th2 := by
  obtain ⟨n, rfl, hl, hM⟩ := hL
  have hn := hl.1
  have hx := nx_le (n := n) (ts := ts) (lev := p1) 0 (Nat.zero_le _)
  unfold F_X7_headSpan F_X8_headSpan F_X8_raises F_X3_spanFrom
  rw [p_demandLevel, bn_e, q_isLevel, bn_e]
  by_cases c : inR 0 4 p1 = true
  · rw [if_pos c, if_pos c, if_pos rfl, if_neg (by decide), p_nextOn hn hf (q := 0) (by decide) (Nat.zero_le _), bn_e, bn_e, q_next hn hf hM (q := 0) (by decide) (Nat.zero_le _), bn_e, show nI (nx n ts p1 0) - (-1) = nI (nx n ts p1 0) + 1 by rw [Int32.sub_neg]]
    exact ⟨_, _, _, _, rfl, rfl, Or.inl ⟨rfl, rfl, rfl⟩⟩
  · rw [if_neg c, if_neg c, if_neg (by decide), if_pos rfl]
    exact ⟨_, _, _, _, rfl, rfl, Or.inr ⟨rfl, rfl, rfl⟩⟩
theorem m_isForgotten (hL : LL z hid ks ws ts cn ct' ch a) : ∃ kk r b th2, F_X7_isForgotten fl hid p1 = some (kk, r) ∧ F_X8_isForgotten fl th a p1 = some (b, th2) ∧ OU1 3 kk r b th2 := by
  obtain ⟨n, rfl, hl, hM⟩ := hL
  unfold F_X7_isForgotten F_X8_isForgotten
  rw [p_demandLevel, bn_e, q_isLevel, bn_e]
  by_cases c : inR 0 4 p1 = true
  · rw [if_pos c, if_pos c, if_pos rfl, if_neg (by decide), if_pos rfl, p_isHidden, bn_e, q_isOut hM, bn_e, gd_e ok01]
    by_cases d : hb hid p1 = true
    · rw [if_pos d, if_neg (by decide)]
      exact ⟨_, _, _, _, rfl, rfl, Or.inl ⟨rfl, rfl, rfl⟩⟩
    · rw [if_neg d, if_pos rfl]
      exact ⟨_, _, _, _, rfl, rfl, Or.inl ⟨rfl, rfl, rfl⟩⟩
  · rw [if_neg c, if_neg c, if_neg (by decide), if_pos rfl, if_neg (by decide)]
    exact ⟨_, _, _, _, rfl, rfl, Or.inr ⟨rfl, rfl, rfl⟩⟩
theorem m_span (hf : 2000 ≤ fl) (hL : LL z hid ks ws ts cn ct' ch a) : ∃ kk r b th2, F_X7_span fl z ks ts p1 p2 = some (kk, r) ∧ F_X8_span fl th a p1 p2 = some (b, th2) ∧ OU3 3 1 2 kk r b th2 := by
  obtain ⟨n, rfl, hl, hM⟩ := hL
  have hn := hl.1
  unfold F_X7_span F_X8_span F_X8_raises F_X3_spanFrom
  rw [p_demandLevel, bn_e, q_isLevel, bn_e]
  by_cases c : inR 0 4 p2 = true
  · rw [if_pos c, if_pos c, if_pos rfl, if_neg (by decide), p_demandKey, bn_e, q_isKey, bn_e]
    by_cases c2 : inR 0 999 p1 = true
    · rw [if_pos c2, if_pos c2, if_pos rfl, if_neg (by decide), p_demandFolder hn hf, q_find hn hf hM]
      cases e : pw n ks p1 with
      | none =>
        show ∃ kk r b th2, bn2 (some (2, 0)) _ = _ ∧ bn (some (-1)) _ = _ ∧ _
        rw [bn2_e, bn_e, if_neg (by decide), if_pos (by decide)]
        exact ⟨_, _, _, _, rfl, rfl, Or.inr (Or.inr (Or.inr ⟨rfl, rfl, rfl⟩))⟩
      | some j =>
        have hj := (pw_some e).1
        show ∃ kk r b th2, bn2 (some (0, nI j)) _ = _ ∧ bn (some (nI j)) _ = _ ∧ _
        rw [bn2_e, bn_e, if_pos rfl, if_neg (nI_nlt0 (by omega)), p_hasRung hn (by omega), bn_e, q_rungs (by omega), bn_e, (hM.2.2.2.2.2 j hj).2.2, p_nextOn hn hf (q := j + 1) (nI_1 j) (by omega), q_next hn hf hM (q := j + 1) (nI_1 j) (by omega), bn_e, bn_e, bn_e]
        by_cases d : p2 < ts j
        · rw [if_pos (show rg n ts p2 j = true from decide_eq_true ⟨hj, d⟩), if_neg (by decide), if_pos d]
          exact ⟨_, _, _, _, rfl, rfl, Or.inl ⟨rfl, rfl, rfl⟩⟩
        · rw [if_neg (show ¬ rg n ts p2 j = true from fun q => d (of_decide_eq_true q).2), if_pos rfl, if_neg d]
          exact ⟨_, _, _, _, rfl, rfl, Or.inr (Or.inr (Or.inr ⟨rfl, rfl, rfl⟩))⟩
    · rw [if_neg c2, if_neg c2, if_neg (by decide), if_pos rfl]
      exact ⟨_, _, _, _, rfl, rfl, Or.inr (Or.inr (Or.inl ⟨rfl, rfl, rfl⟩))⟩
  · rw [if_neg c, if_neg c, if_neg (by decide), if_pos rfl]
    exact ⟨_, _, _, _, rfl, rfl, Or.inr (Or.inl ⟨rfl, rfl, rfl⟩)⟩
theorem ct_gap (p : Nat → Bool) {j : Nat} : ∀ d, (∀ i, j ≤ i → i < j + d → p i = false) → ct p (j + d) = ct p j := by
  intro d
  induction d with
  | zero => intro _; rfl
  | succ d ih =>
    intro h
    rw [← Nat.add_assoc, ct, if_neg (by rw [h (j + d) (by omega) (by omega)]; decide)]
    exact ih (fun i h1 h2 => h i h1 (by omega))
theorem ct_to (p : Nat → Bool) {j k : Nat} (h : j ≤ k) (h2 : ∀ i, j ≤ i → i < k → p i = false) : ct p k = ct p j := by
  have e := ct_gap p (j := j) (k - j) (fun i h3 h4 => h2 i h3 (by omega))
  rw [show j + (k - j) = k by omega] at e; exact e
/-- the next one on a level is there while some are left -/
theorem nx_left {q : Nat} (hq : q ≤ n) (h : ct (rg n ts lev) q < ct (rg n ts lev) n) : nx n ts lev q < n ∧ ct (rg n ts lev) (nx n ts lev q + 1) = ct (rg n ts lev) q + 1 := by
  obtain ⟨h1, h2⟩ := nx_le (n := n) (ts := ts) (lev := lev) q hq
  have e := ct_to (rg n ts lev) h1 (fun i g1 g2 => nx_no g1 g2)
  have h3 : nx n ts lev q < n := by
    rcases Nat.lt_or_ge (nx n ts lev q) n with c | c
    · exact c
    · have : nx n ts lev q = n := by omega
      rw [this] at e; omega
  refine ⟨h3, ?_⟩
  rw [ct, if_pos (nx_yes hq h3), e]
theorem r_levelL (hn : n ≤ 24) (hf : 2000 ≤ fl) (hM : MR n ks ws ts cn ct' ch hid a) {T : Int32} {P : Nat} (hP : P ≤ 24) : ∀ (d x j m m' : Nat), x + d = P → d < m → d < m' → j < n → ct (rg n ts lev) (j + 1) + d ≤ ct (rg n ts lev) n → ∃ v, F_X7_levelAt_41 fl (nI n) ks ts m lev (nI P) (nI j) (nI x) = some (0, v) ∧ F_X8_levelAt_49 fl a m' T lev (nI P) (nI j) (nI x) = some (v, T) := by
  intro d
  induction d with
  | zero =>
    intro x j m m' hx hm hm' hj hc
    obtain ⟨m, rfl⟩ : ∃ q, m = q + 1 := ⟨m - 1, by omega⟩
    obtain ⟨m', rfl⟩ : ∃ q, m' = q + 1 := ⟨m' - 1, by omega⟩
    have e := (nI_leI (a := P) (b := x) (by omega) (by omega)).mpr (by omega)
    rw [F_X7_levelAt_41, F_X8_levelAt_49, if_pos e, if_pos e, p_keyOf hn (by omega), q_key (by omega), bn_e, bn_e, if_pos hj, (hM.2.2.2.2.2 j hj).1]
    exact ⟨_, rfl, rfl⟩
  | succ d ih =>
    intro x j m m' hx hm hm' hj hc
    obtain ⟨m, rfl⟩ : ∃ q, m = q + 1 := ⟨m - 1, by omega⟩
    obtain ⟨m', rfl⟩ : ∃ q, m' = q + 1 := ⟨m' - 1, by omega⟩
    have e : ¬ nI P ≤ nI x := fun q => by have := (nI_leI (by omega) (by omega)).mp q; omega
    obtain ⟨g1, g2⟩ := nx_left (n := n) (ts := ts) (lev := lev) (q := j + 1) (by omega) (by omega)
    rw [F_X7_levelAt_41, F_X8_levelAt_49, if_neg e, if_neg e, p_nextOn hn hf (q := j + 1) (nI_1 j) (by omega), q_next hn hf hM (q := j + 1) (nI_1 j) (by omega), bn_e, bn_e, nI_1]
    exact ih (x + 1) _ m m' (by omega) (by omega) (by omega) g1 (by omega)
theorem m_levelAt (hf : 2000 ≤ fl) (hL : LL z hid ks ws ts cn ct' ch a) : ∃ kk r b th2, F_X7_levelAt fl z ks ts p1 p2 = some (kk, r) ∧ F_X8_levelAt fl th a p1 p2 = some (b, th2) ∧ OU2 3 2 kk r b th2 := by
  obtain ⟨n, rfl, hl, hM⟩ := hL
  have hn := hl.1
  have hct := ct_le (rg n ts p1) n
  unfold F_X7_levelAt F_X8_levelAt F_X8_raises
  rw [p_demandLevel, bn_e, q_isLevel, bn_e]
  by_cases c : inR 0 4 p1 = true
  · rw [if_pos c, if_pos c, if_pos rfl, if_neg (show ¬ (1 : Int32) = 0 by decide), p_foldersOn hn hf, q_sizeOf hn hf hM, bn_e, bn_e, q_in, bn_e]
    by_cases d : p2 < 0
    · rw [if_pos d, if_neg (show ¬ inR 0 (nI (ct (rg n ts p1) n) - 1) p2 = true from fun q => absurd d ((le_iff_nlt _ _).mp (of_decide_eq_true q).1)), if_pos rfl]
      exact ⟨_, _, _, _, rfl, rfl, Or.inr (Or.inr ⟨rfl, rfl, rfl⟩)⟩
    · obtain ⟨P, hP, rfl⟩ := nI_of d
      rw [if_neg d]
      by_cases e : P < ct (rg n ts p1) n
      · have e2 : inR 0 (nI (ct (rg n ts p1) n) - 1) (nI P) = true := by
          rw [show nI (ct (rg n ts p1) n) - 1 = nI (ct (rg n ts p1) n - 1) from pk_sub (b := 1) (by omega)]
          exact nI_inR (lo := 0) (by omega) (by omega) (by omega)
        rw [if_pos ((nI_ltI (by omega) (by omega)).mpr e), if_pos e2, if_neg (show ¬ (1 : Int32) = 0 by decide), p_nextOn hn hf (q := 0) (by decide) (Nat.zero_le _), q_next hn hf hM (q := 0) (by decide) (Nat.zero_le _), bn_e, bn_e]
        have z0 : ct (rg n ts p1) 0 = 0 := rfl
        obtain ⟨g1, g2⟩ := nx_left (n := n) (ts := ts) (lev := p1) (q := 0) (Nat.zero_le _) (by omega)
        obtain ⟨v, h1, h2⟩ := r_levelL (fl := fl) (lev := p1) (T := 0) (P := P) hn hf hM (by omega) P 0 _ fl fl (by omega) (by omega) (by omega) g1 (by omega)
        rw [nI_0] at h1 h2
        rw [h1, h2]
        exact ⟨_, _, _, _, rfl, rfl, Or.inl ⟨rfl, rfl, rfl⟩⟩
      · have e2 : ¬ inR 0 (nI (ct (rg n ts p1) n) - 1) (nI P) = true := fun q => by
          have h2 := (of_decide_eq_true q).2
          by_cases n0 : ct (rg n ts p1) n = 0
          · rw [n0, Int32.le_iff_toInt_le, nI_toInt hP, show (nI 0 - 1).toInt = -1 by decide] at h2; omega
          · rw [show nI (ct (rg n ts p1) n) - 1 = nI (ct (rg n ts p1) n - 1) from pk_sub (b := 1) (by omega)] at h2
            have := (nI_leI hP (by omega)).mp h2; omega
        rw [if_neg (fun q => e ((nI_ltI (by omega) (by omega)).mp q)), if_neg e2, if_pos rfl]
        exact ⟨_, _, _, _, rfl, rfl, Or.inr (Or.inr ⟨rfl, rfl, rfl⟩)⟩
  · rw [if_neg c, if_neg c, if_neg (by decide), if_pos rfl]
    exact ⟨_, _, _, _, rfl, rfl, Or.inr (Or.inl ⟨rfl, rfl, rfl⟩)⟩
