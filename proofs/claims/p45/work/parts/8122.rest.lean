/-! longest searches, reasons, texts, accounts -/
variable {fl n : Nat} {ks ws ts a : Nat → Int32} {key lev hid cn ct' ch z : Int32} {th g f p1 p2 x1 x2 x3 x4 x5 : Int32} {way : Nat → Int32}
/-- steps to a key, as a number -/
def sn (n : Nat) (ks ts : Nat → Int32) (hid key : Int32) : Nat := (SR n ks ts hid key).1.length + (SR n ks ts hid key).2.1
theorem sn_le (hn : n ≤ 24) (hm : mx n ts n ≤ 5) : sn n ks ts hid key ≤ 28 := by
  have := SR_len (ks := ks) (hid := hid) (key := key) hm
  unfold sn; omega
theorem p_stepsS (hn : n ≤ 24) (hf : 2000 ≤ fl) (ht : tw n ts) (hm : mx n ts n ≤ 5) : ∃ y1 y2 y3 y4 y5, F_X6_stepsTo fl x1 x2 x3 x4 x5 (nI n) hid ks ts key = some (nI (sn n ks ts hid key), y1, y2, y3, y4, y5) := ⟨_, _, _, _, _, p_stepsTo hn hf ht hm⟩
theorem q_stepsS (hn : n ≤ 24) (hf : 2000 ≤ fl) (ht : tw n ts) (hm : mx n ts n ≤ 5) (h : MR n ks ws ts cn ct' ch hid a) : ∃ g2 f2 way2, F_X8_searches fl g f a way key = some (nI (sn n ks ts hid key), g2, f2, way2) := by
  obtain ⟨w, e, -⟩ := q_searches (fl := fl) (key := key) (g := g) (f := f) (way := way) hn hf ht hm h
  exact ⟨_, _, _, e⟩
theorem r_longL (hn : n ≤ 24) (hf : 2000 ≤ fl) (ht : tw n ts) (hm : mx n ts n ≤ 5) (hM : MR n ks ws ts cn ct' ch hid a) {T : Int32} : ∀ (d j b m m' : Nat) (x1 x2 x3 x4 x5 g f : Int32) (way : Nat → Int32), j + d = n → b < n → d < m → d < m' →
    ∃ v y1 y2 y3 y4 y5 g2 f2 way2, F_X7_longestSearch_6 fl (nI n) hid ks ts m x1 x2 x3 x4 x5 (nI b) (nI (sn n ks ts hid (ks b))) (nI j) = some (0, v, y1, y2, y3, y4, y5) ∧ F_X8_longestSearch_24 fl a m' T g f way (nI b) (nI j) = some (v, T, g2, f2, way2) := by
  intro d
  induction d with
  | zero =>
    intro j b m m' x1 x2 x3 x4 x5 g f way hj hb hm1 hm2
    obtain ⟨m, rfl⟩ : ∃ q, m = q + 1 := ⟨m - 1, by omega⟩
    obtain ⟨m', rfl⟩ : ∃ q, m' = q + 1 := ⟨m' - 1, by omega⟩
    have e := (nI_leI (a := n) (b := j) (by omega) (by omega)).mpr (by omega)
    rw [F_X7_longestSearch_6, F_X8_longestSearch_24]
    unfold F_X3_size
    rw [bn_e, if_pos e, gl0, c0, hM.1, if_pos e, p_keyOrNone hn (by omega), if_pos hb, bn2_e, if_pos rfl, q_key (by omega), bn_e, (hM.2.2.2.2.2 b hb).1]
    exact ⟨_, _, _, _, _, _, _, _, _, rfl, rfl⟩
  | succ d ih =>
    intro j b m m' x1 x2 x3 x4 x5 g f way hj hb hm1 hm2
    obtain ⟨m, rfl⟩ : ∃ q, m = q + 1 := ⟨m - 1, by omega⟩
    obtain ⟨m', rfl⟩ : ∃ q, m' = q + 1 := ⟨m' - 1, by omega⟩
    have hj2 : j < n := by omega
    have e : ¬ nI n ≤ nI j := fun q => by have := (nI_leI (by omega) (by omega)).mp q; omega
    have s1 := sn_le (ks := ks) (hid := hid) (key := ks j) hn hm
    have s2 := sn_le (ks := ks) (hid := hid) (key := ks b) hn hm
    obtain ⟨y1, y2, y3, y4, y5, e1⟩ := p_stepsS (fl := fl) (ks := ks) (hid := hid) (key := ks j) (x1 := x1) (x2 := x2) (x3 := x3) (x4 := x4) (x5 := x5) hn hf ht hm
    obtain ⟨g2, f2, way2, e2⟩ := q_stepsS (fl := fl) (key := ks j) (g := g) (f := f) (way := way) hn hf ht hm hM
    obtain ⟨g3, f3, way3, e3⟩ := q_stepsS (fl := fl) (key := ks b) (g := g2) (f := f2) (way := way2) hn hf ht hm hM
    rw [F_X7_longestSearch_6, F_X8_longestSearch_24]
    unfold F_X3_size
    rw [bn_e, if_neg e, gl0, c0, hM.1, if_neg e, p_keyOf hn (by omega), bn_e, if_pos hj2, e1, bn6_e, if_neg (nI_nm1 (by omega)), q_key (by omega), bn_e, (hM.2.2.2.2.2 j hj2).1, e2, bn4_e, q_key (by omega), bn_e, (hM.2.2.2.2.2 b hb).1, e3, bn4_e, nI_1]
    by_cases c : nI (sn n ks ts hid (ks j)) ≤ nI (sn n ks ts hid (ks b))
    · rw [if_pos c, if_pos c]
      exact ih (j + 1) b m m' _ _ _ _ _ _ _ _ (by omega) hb (by omega) (by omega)
    · rw [if_neg c, if_neg c]
      exact ih (j + 1) j m m' _ _ _ _ _ _ _ _ (by omega) hj2 (by omega) (by omega)
theorem m_longestSearch (hf : 2000 ≤ fl) (hL : LL z hid ks ws ts cn ct' ch a) : ∃ kk r y1 y2 y3 y4 y5 b th2 g2 f2 way2, F_X7_longestSearch fl z hid ks ts x1 x2 x3 x4 x5 = some (kk, r, y1, y2, y3, y4, y5) ∧ F_X8_longestSearch fl th g f a way = some (b, th2, g2, f2, way2) ∧ OU1 2 kk r b th2 := by
  obtain ⟨n, rfl, hl, hM⟩ := hL
  have hm := LL_m hl hf
  have hn := hl.1
  obtain ⟨fl', rfl⟩ : ∃ q, fl = q + 1 := ⟨fl - 1, by omega⟩
  unfold F_X7_longestSearch F_X8_longestSearch F_X8_raises
  rw [gl0, c0, hM.1, F_X7_longestSearch_6]
  unfold F_X3_size
  rw [bn_e]
  by_cases n0 : n = 0
  · subst n0
    rw [if_pos (by decide), if_pos nI_0, p_keyOrNoneH, bn2_e, if_neg (by decide)]
    exact ⟨_, _, _, _, _, _, _, _, _, _, _, _, rfl, rfl, Or.inr ⟨rfl, rfl, rfl⟩⟩
  · have e : ¬ nI n ≤ (0 : Int32) := fun q => by have := (nI_leI (b := 0) (by omega) (by omega)).mp q; omega
    obtain ⟨y1, y2, y3, y4, y5, e1⟩ := p_stepsS (fl := fl' + 1) (ks := ks) (hid := hid) (key := ks 0) (x1 := x1) (x2 := x2) (x3 := x3) (x4 := x4) (x5 := x5) hn hf hl.2.2.1 hm
    have ek : F_X3_keyOf (fl' + 1) (nI n) ks 0 = some (ks 0) := by
      have h := p_keyOf (fl := fl' + 1) (ks := ks) hn (j := 0) (by omega)
      rw [if_pos (show 0 < n by omega)] at h; exact h
    rw [if_neg e, if_neg (nI_ne0 (by omega) (by omega)), ek, bn_e, e1, bn6_e, if_pos rfl]
    obtain ⟨v, z1, z2, z3, z4, z5, g2, f2, way2, h1, h2⟩ := r_longL (fl := fl' + 1) (ks := ks) (T := 0) hn hf hl.2.2.1 hm hM (n - 1) 1 0 fl' (fl' + 1) y1 y2 y3 y4 y5 g f way (by omega) (by omega) (by omega) (by omega)
    exact ⟨_, _, _, _, _, _, _, _, _, _, _, _, h1, h2, Or.inl ⟨rfl, rfl, rfl⟩⟩
theorem m_reason {rs dt ix : Int32} : ∃ kk r b th2, F_X7_reason fl rs dt ix p1 = some (kk, r) ∧ F_X8_reason fl rs dt ix th p1 = some (b, th2) ∧ OU2 1 2 kk r b th2 := by
  unfold F_X7_reason F_X8_reason F_X8_raises F_X0_hasRefused F_X0_keptReason F_X0_keptDetail F_X0_keptIndex
  rw [q_in]
  show ∃ kk r b th2, _ ∧ (if (if inR 0 2 p1 = true then (1 : Int32) else 0) = 0 then _ else _) = _ ∧ _
  by_cases d1 : p1 < 0
  · rw [if_pos d1, if_neg (show ¬ inR 0 2 p1 = true from fun q => absurd d1 ((le_iff_nlt _ _).mp (of_decide_eq_true q).1)), if_pos rfl]
    exact ⟨_, _, _, _, rfl, rfl, Or.inr (Or.inl ⟨rfl, rfl, rfl⟩)⟩
  · rw [if_neg d1]
    by_cases d2 : p1 ≤ 2
    · rw [if_pos d2, if_pos (show inR 0 2 p1 = true from decide_eq_true ⟨(nlt_iff_le _ _).mp d1, d2⟩), if_neg (show ¬ (1 : Int32) = 0 by decide)]
      by_cases c : rs = 0
      · rw [if_pos c, bn_e, if_pos rfl, if_pos c]
        exact ⟨_, _, _, _, rfl, rfl, Or.inr (Or.inr ⟨rfl, rfl, rfl⟩)⟩
      · rw [if_neg c, bn_e, if_neg (by decide), if_neg c]
        by_cases t0 : p1 = 0
        · rw [if_pos t0, if_pos t0]; exact ⟨_, _, _, _, rfl, rfl, Or.inl ⟨rfl, rfl, rfl⟩⟩
        · rw [if_neg t0, if_neg t0]
          by_cases t1 : p1 = 1
          · rw [if_pos t1, if_pos t1]; exact ⟨_, _, _, _, rfl, rfl, Or.inl ⟨rfl, rfl, rfl⟩⟩
          · rw [if_neg t1, if_neg t1]; exact ⟨_, _, _, _, rfl, rfl, Or.inl ⟨rfl, rfl, rfl⟩⟩
    · rw [if_neg d2, if_neg (show ¬ inR 0 2 p1 = true from fun q => d2 (of_decide_eq_true q).2), if_pos rfl]
      exact ⟨_, _, _, _, rfl, rfl, Or.inr (Or.inl ⟨rfl, rfl, rfl⟩)⟩
theorem m_append {m : Nat} (hm : m ≤ 60) {tx : Nat → Int32} : ∃ kk r ln tx2 b th2, F_X7_append fl (nI m) tx p1 = some (kk, r, ln, tx2) ∧ F_X8_append fl (nI m) th tx p1 = some (b, ln, th2, tx2) ∧ OU1 5 kk r b th2 ∧ ∃ m2, m2 ≤ 60 ∧ ln = nI m2 := by
  unfold F_X7_append F_X8_append F_X5_take F_X5_length F_X8_raises
  rw [if_neg (nI_nlt0 (by omega))]
  by_cases c : m = 60
  · subst c
    rw [if_neg (by decide), bn3_e, if_pos rfl, if_pos (by decide)]
    exact ⟨_, _, _, _, _, _, rfl, rfl, Or.inr ⟨rfl, rfl, rfl⟩, 60, by omega, rfl⟩
  · rw [if_pos (show nI m < (60 : Int32) from (nI_ltI (a := m) (b := 60) (by omega) (by omega)).mpr (by omega)), if_neg (show ¬ nI m = (60 : Int32) from fun q => c ((nI_eq (a := m) (b := 60) (by omega) (by omega)).mp q)), g_lit (by omega) (by decide), g_lit (by omega) (by decide), bn3_e, if_neg (by decide)]
    exact ⟨_, _, _, _, _, _, rfl, rfl, Or.inl ⟨rfl, rfl, rfl⟩, m + 1, by omega, nI_1 m⟩
theorem q_allL (hn : n ≤ 24) (h : MR n ks ws ts cn ct' ch hid a) : ∀ (d j m m' : Nat) (c : Int32), j + d = n → d < m → d < m' → ∃ v, F_X3_allRungs_4 fl (nI n) ts m c (nI j) = some v ∧ F_X8_allRungs_4 fl a m' c (nI j) = some v := by
  intro d
  induction d with
  | zero =>
    intro j m m' c hj hm1 hm2
    obtain ⟨m, rfl⟩ : ∃ q, m = q + 1 := ⟨m - 1, by omega⟩
    obtain ⟨m', rfl⟩ : ∃ q, m' = q + 1 := ⟨m' - 1, by omega⟩
    have e := (nI_leI (a := n) (b := j) (by omega) (by omega)).mpr (by omega)
    rw [F_X3_allRungs_4, F_X8_allRungs_4, if_pos e, gl0, c0, h.1, if_pos e]
    exact ⟨c, rfl, rfl⟩
  | succ d ih =>
    intro j m m' c hj hm1 hm2
    obtain ⟨m, rfl⟩ : ∃ q, m = q + 1 := ⟨m - 1, by omega⟩
    obtain ⟨m', rfl⟩ : ∃ q, m' = q + 1 := ⟨m' - 1, by omega⟩
    have e : ¬ nI n ≤ nI j := fun q => by have := (nI_leI (by omega) (by omega)).mp q; omega
    rw [F_X3_allRungs_4, F_X8_allRungs_4, if_neg e, gl0, c0, h.1, if_neg e, p_rungsOf hn (by omega), bn_e, q_rungs (by omega), bn_e, if_pos (by omega), (h.2.2.2.2.2 j (by omega)).2.2, nI_1]
    exact ih (j + 1) m m' _ (by omega) (by omega) (by omega)
theorem q_all (hn : n ≤ 24) (hf : 2000 ≤ fl) (h : MR n ks ws ts cn ct' ch hid a) : ∃ v, F_X3_allRungs fl (nI n) ts = some v ∧ F_X8_allRungs fl a = some v := q_allL hn h n 0 fl fl 0 (by omega) (by omega) (by omega)
theorem q_allWL (hn : n ≤ 24) (h : MR n ks ws ts cn ct' ch hid a) {T u le : Int32} : ∀ (d j m m' : Nat) (c : Int32), j + d = n → d < m → d < m' → ∃ v, F_X3_allWeights_4 fl (nI n) ws m c (nI j) = some v ∧ F_X8_account_78 fl u le a m' T p1 c (nI j) = some (v, T) := by
  intro d
  induction d with
  | zero =>
    intro j m m' c hj hm1 hm2
    obtain ⟨m, rfl⟩ : ∃ q, m = q + 1 := ⟨m - 1, by omega⟩
    obtain ⟨m', rfl⟩ : ∃ q, m' = q + 1 := ⟨m' - 1, by omega⟩
    have e := (nI_leI (a := n) (b := j) (by omega) (by omega)).mpr (by omega)
    rw [F_X3_allWeights_4, F_X8_account_78, if_pos e, gl0, c0, h.1, if_pos e]
    exact ⟨c, rfl, rfl⟩
  | succ d ih =>
    intro j m m' c hj hm1 hm2
    obtain ⟨m, rfl⟩ : ∃ q, m = q + 1 := ⟨m - 1, by omega⟩
    obtain ⟨m', rfl⟩ : ∃ q, m' = q + 1 := ⟨m' - 1, by omega⟩
    have e : ¬ nI n ≤ nI j := fun q => by have := (nI_leI (by omega) (by omega)).mp q; omega
    rw [F_X3_allWeights_4, F_X8_account_78, if_neg e, gl0, c0, h.1, if_neg e, p_weightOf hn (by omega), bn_e, q_weight (by omega), bn_e, if_pos (by omega), (h.2.2.2.2.2 j (by omega)).2.1, nI_1]
    exact ih (j + 1) m m' _ (by omega) (by omega) (by omega)
theorem q_highL (hn : n ≤ 24) (h : MR n ks ws ts cn ct' ch hid a) {T u le : Int32} : ∀ (d j m m' : Nat) (c : Int32), j + d = n → d < m → d < m' → ∃ v, F_X3_highestLevel_4 fl (nI n) ts m c (nI j) = some v ∧ F_X8_account_137 fl u le a m' T p1 c (nI j) = some (v, T) := by
  intro d
  induction d with
  | zero =>
    intro j m m' c hj hm1 hm2
    obtain ⟨m, rfl⟩ : ∃ q, m = q + 1 := ⟨m - 1, by omega⟩
    obtain ⟨m', rfl⟩ : ∃ q, m' = q + 1 := ⟨m' - 1, by omega⟩
    have e := (nI_leI (a := n) (b := j) (by omega) (by omega)).mpr (by omega)
    rw [F_X3_highestLevel_4, F_X8_account_137, if_pos e, gl0, c0, h.1, if_pos e]
    exact ⟨_, rfl, rfl⟩
  | succ d ih =>
    intro j m m' c hj hm1 hm2
    obtain ⟨m, rfl⟩ : ∃ q, m = q + 1 := ⟨m - 1, by omega⟩
    obtain ⟨m', rfl⟩ : ∃ q, m' = q + 1 := ⟨m' - 1, by omega⟩
    have e : ¬ nI n ≤ nI j := fun q => by have := (nI_leI (by omega) (by omega)).mp q; omega
    rw [F_X3_highestLevel_4, F_X8_account_137, if_neg e, gl0, c0, h.1, if_neg e, p_rungsOf hn (by omega), bn_e, q_rungs (by omega), bn_e, if_pos (show j < n by omega), (h.2.2.2.2.2 j (by omega)).2.2, nI_1]
    exact ih (j + 1) m m' _ (by omega) (by omega) (by omega)
theorem m_account (hf : 2000 ≤ fl) (hL : LL z hid ks ws ts cn ct' ch a) {u le : Int32} : ∃ kk r b th2, F_X7_account fl z hid ws ts cn ct' ch le u p1 = some (kk, r) ∧ F_X8_account fl u le th a p1 = some (b, th2) ∧ OU1 1 kk r b th2 := by
  obtain ⟨n, rfl, hl, hM⟩ := hL
  have hn := hl.1
  obtain ⟨v1, a1, a2⟩ := q_all (fl := fl) hn hf hM
  obtain ⟨v2, b1, b2⟩ := q_allWL (fl := fl) (p1 := p1) (T := 0) (u := u) (le := le) hn hM n 0 fl fl 0 (by omega) (by omega) (by omega)
  obtain ⟨v3, d1, d2⟩ := q_highL (fl := fl) (p1 := p1) (T := 0) (u := u) (le := le) hn hM n 0 fl fl 0 (by omega) (by omega) (by omega)
  have b1 : F_X3_allWeights fl (nI n) ws = some v2 := b1
  have d1 : F_X3_highestLevel fl (nI n) ts = some v3 := d1
  rw [nI_0] at b2 d2
  unfold F_X7_account F_X8_account F_X8_raises F_X3_size F_X3_hiddenLevels F_X3_coin F_X1_number F_X1_tossed F_X1_heads F_X2_amount F_X5_length
  rw [a1, a2, b1, b2, d1, d2, gl0, gl1, gl2, gl3, gl4, c0, c1, c2, c3, c4, hM.1, hM.2.1, hM.2.2.1, hM.2.2.2.1, hM.2.2.2.2.1]
  have done : ∀ (v : Int32), ∃ kk r b th2, some ((0 : Nat), v) = some (kk, r) ∧ some (v, (0 : Int32)) = some (b, th2) ∧ OU1 1 kk r b th2 := fun v => ⟨_, _, _, _, rfl, rfl, Or.inl ⟨rfl, rfl, rfl⟩⟩
  by_cases t : p1 = 0
  · rw [if_pos t, if_pos t]; exact done _
  rw [if_neg t, if_neg t]
  by_cases t : p1 = 1
  · rw [if_pos t, if_pos t]; exact done _
  rw [if_neg t, if_neg t]
  by_cases t : p1 = 2
  · rw [if_pos t, if_pos t]; exact done _
  rw [if_neg t, if_neg t]
  by_cases t : p1 = 3
  · rw [if_pos t, if_pos t]; exact done _
  rw [if_neg t, if_neg t]
  by_cases t : p1 = 4
  · rw [if_pos t, if_pos t]; exact done _
  rw [if_neg t, if_neg t]
  by_cases t : p1 = 5
  · rw [if_pos t, if_pos t]; exact done _
  rw [if_neg t, if_neg t]
  by_cases t : p1 = 6
  · rw [if_pos t, if_pos t]; exact done _
  rw [if_neg t, if_neg t]
  by_cases t : p1 = 7
  · rw [if_pos t, if_pos t]; exact done _
  rw [if_neg t, if_neg t]
  by_cases t : p1 = 8
  · rw [if_pos t, if_pos t]; exact done _
  rw [if_neg t, if_neg t]
  by_cases t : p1 = 9
  · rw [if_pos t, if_pos t]; exact done _
  rw [if_neg t, if_neg t]
  exact ⟨_, _, _, _, rfl, rfl, Or.inr ⟨rfl, rfl, rfl⟩⟩
