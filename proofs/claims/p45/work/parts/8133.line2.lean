/-! lines of the reference -/
variable {fl n : Nat} {ks ws ts a : Nat → Int32} {hid cn ct' ch z lev p1 th T ln : Int32} {line : Nat → Int32}
def WL (t : Nat → Nat) (n : Nat) (a : Nat → Int32) : Prop := ∀ j, j < n → t j < 256 ∧ a j = nI (t j)
theorem wl_put {t s : Nat → Nat} {n w : Nat} {a a' : Nat → Int32} (h : WL t n a) (hk : ∀ j, j < n → a' j = a j) (hs : ∀ i, i < w → s i < 256 ∧ a' (n + i) = nI (s i)) : WL (sb_cat t n s) (n + w) a' := by
  intro j hj
  by_cases c : j < n
  · rw [sb_cat_lo c]; exact ⟨(h j c).1, (hk j c).trans (h j c).2⟩
  · obtain ⟨i, rfl⟩ : ∃ i, j = n + i := ⟨j - n, by omega⟩
    rw [sb_cat_hi]; exact hs i (by omega)
theorem wl_1 {t : Nat → Nat} {n c : Nat} {a : Nat → Int32} (h : WL t n a) (hc : c < 256) : WL (sb_cat t n (fun _ => c)) (n + 1) (upd a n (nI c)) := wl_put h (fun j hj => pk_un (by omega)) (fun i hi => by
  obtain rfl : i = 0 := by omega
  exact ⟨hc, pk_us⟩)
theorem wd : ∀ v, v < 1000 → vp_nar .char ((((48 : Int32) + (nI v - nI v / (10 : Int32) * (10 : Int32))).toUInt32 % 65536).toInt32) = nI (48 + v % 10) := by decide +kernel
theorem wq : ∀ v, v < 1000 → nI v / (10 : Int32) = nI (v / 10) := by decide +kernel
theorem g120 {α : Type} {k : Nat} {x : Option α} (h : k < 120) : gi (nI k) 120 x = x := g_lit h (by decide)
theorem q_w0 {N v : Nat} (hv : v < 10) (hN : N < 120) : F_X8_writesNumber0 fl (nI N) line (nI v) = some (nI (N + 1), upd line N (nI (48 + v % 10))) := by
  unfold F_X8_writesNumber0
  rw [if_pos (show nI v ≤ (9 : Int32) from (nI_leI (a := v) (b := 9) (by omega) (by omega)).mpr (by omega)), g120 hN, wd v (by omega), nI_1, nI_clamp (by omega)]
def w1B (line : Nat → Int32) (N v : Nat) : Nat → Int32 := if v < 10 then upd line N (nI (48 + v % 10)) else upd (upd line N (nI (48 + v / 10 % 10))) (N + 1) (nI (48 + v % 10))
theorem q_w1 {N v : Nat} (hv : v < 100) (hN : N + 1 < 120) : F_X8_writesNumber1 fl (nI N) line (nI v) = some (nI (N + sb_dg v), w1B line N v) := by
  unfold F_X8_writesNumber1 w1B
  by_cases c : v < 10
  · rw [if_pos (show nI v ≤ (9 : Int32) from (nI_leI (a := v) (b := 9) (by omega) (by omega)).mpr (by omega)), g120 (by omega), wd v (by omega), nI_1, nI_clamp (by omega), if_pos c, show sb_dg v = 1 from if_pos c]
  · rw [if_neg (show ¬ nI v ≤ (9 : Int32) from fun q => by have := (nI_leI (a := v) (b := 9) (by omega) (by omega)).mp q; omega), wd v (by omega), wq v (by omega), q_w0 (by omega) (by omega), bn2_e, g120 (by omega), nI_1, nI_clamp (by omega), if_neg c, show sb_dg v = 2 from (if_neg c).trans (if_pos hv)]
def w2B (line : Nat → Int32) (N v : Nat) : Nat → Int32 := if v < 10 then upd line N (nI (48 + v % 10)) else upd (w1B line N (v / 10)) (N + sb_dg (v / 10)) (nI (48 + v % 10))
theorem q_w2 {N v : Nat} (hv : v < 1000) (hN : N + 2 < 120) : F_X8_writesNumber2 fl (nI N) line (nI v) = some (nI (N + sb_dg v), w2B line N v) := by
  unfold F_X8_writesNumber2 w2B
  by_cases c : v < 10
  · rw [if_pos (show nI v ≤ (9 : Int32) from (nI_leI (a := v) (b := 9) (by omega) (by omega)).mpr (by omega)), g120 (by omega), wd v (by omega), nI_1, nI_clamp (by omega), if_pos c, show sb_dg v = 1 from if_pos c]
  · have e : sb_dg v = sb_dg (v / 10) + 1 := by
      by_cases c2 : v < 100
      · rw [show sb_dg v = 2 from (if_neg c).trans (if_pos c2), show sb_dg (v / 10) = 1 from if_pos (by omega)]
      · rw [show sb_dg v = 3 from (if_neg c).trans ((if_neg c2).trans (if_pos hv)), show sb_dg (v / 10) = 2 from (if_neg (by omega)).trans (if_pos (by omega))]
    have h3 := dg3 hv
    rw [if_neg (show ¬ nI v ≤ (9 : Int32) from fun q => by have := (nI_leI (a := v) (b := 9) (by omega) (by omega)).mp q; omega), wd v (by omega), wq v (by omega), q_w1 (by omega) (by omega), bn2_e, g120 (by omega), nI_1, nI_clamp (by omega), if_neg c, e]
    rfl
theorem wl_dec {t : Nat → Nat} {N v : Nat} (h : WL t N line) (hv : v < 1000) : WL (sb_cat t N (sb_dec v)) (N + sb_dg v) (w2B line N v) := by
  refine wl_put h (fun j hj => ?_) (fun i hi => ⟨by unfold sb_dec; omega, ?_⟩)
  · unfold w2B w1B
    split
    · exact pk_un (by omega)
    · rw [pk_un (by omega)]
      split
      · exact pk_un (by omega)
      · rw [pk_un (by omega), pk_un (by omega)]
  · unfold w2B w1B sb_dec
    by_cases h0 : v < 10
    · have ed : sb_dg v = 1 := if_pos h0
      rw [ed] at hi ⊢
      obtain rfl : i = 0 := by omega
      rw [if_pos h0, Nat.add_zero N, pk_us]
      show nI (48 + v % 10) = nI (48 + v / 1 % 10)
      rw [Nat.div_one]
    · by_cases h1 : v < 100
      · have ed : sb_dg v = 2 := (if_neg h0).trans (if_pos h1)
        rw [ed] at hi ⊢
        rw [if_neg h0, if_pos (show v / 10 < 10 by omega), show sb_dg (v / 10) = 1 from if_pos (by omega)]
        obtain rfl | rfl : i = 0 ∨ i = 1 := by omega
        · rw [pk_un (by omega), Nat.add_zero N, pk_us]
        · rw [pk_us]
          show nI (48 + v % 10) = nI (48 + v / 1 % 10)
          rw [Nat.div_one]
      · have ed : sb_dg v = 3 := (if_neg h0).trans ((if_neg h1).trans (if_pos hv))
        rw [ed] at hi ⊢
        rw [if_neg h0, if_neg (show ¬ v / 10 < 10 by omega), show sb_dg (v / 10) = 2 from (if_neg (by omega)).trans (if_pos (by omega))]
        obtain rfl | rfl | rfl : i = 0 ∨ i = 1 ∨ i = 2 := by omega
        · rw [pk_un (by omega), pk_un (by omega), Nat.add_zero N, pk_us]
          show nI (48 + v / 10 / 10 % 10) = nI (48 + v / 100 % 10)
          rw [Nat.div_div_eq_div_mul]
        · rw [pk_un (by omega), pk_us]
        · rw [pk_us]
          show nI (48 + v % 10) = nI (48 + v / 1 % 10)
          rw [Nat.div_one]
theorem nr32 : vp_nar .char (32 : Int32) = nI 32 := by decide
theorem nr33 : vp_nar .char (33 : Int32) = nI 33 := by decide
theorem nr58 : vp_nar .char (58 : Int32) = nI 58 := by decide
theorem nx_here {j : Nat} (hj : j < n) (c : lev < ts j) : nx n ts lev j = j := by
  unfold nx
  exact fi_eq _ (Nat.le_refl _) (by omega) (fun i h1 h2 => by omega) (fun _ => decide_eq_true ⟨hj, c⟩)
theorem nx_skip {j : Nat} (hj : j < n) (c : ¬ lev < ts j) : nx n ts lev j = nx n ts lev (j + 1) := by
  have h1 := nx_le (n := n) (ts := ts) (lev := lev) (j + 1) (by omega)
  show fi (rg n ts lev) (n - j) j = _
  refine fi_eq _ (by omega) (by omega) (fun i g1 g2 => ?_) (fun g => nx_yes (by omega) (by omega))
  by_cases e : i = j
  · subst e; exact decide_eq_false (fun q => c q.2)
  · exact nx_no (q := j + 1) (by omega) g2
theorem nx_end : nx n ts lev n = n := by
  unfold nx
  exact fi_eq _ (Nat.le_refl _) (by omega) (fun i h1 h2 => by omega) (fun h => by omega)
theorem q_lineL (hn : n ≤ 24) (hf : 2000 ≤ fl) (hM : MR n ks ws ts cn ct' ch hid a) (hk : ∀ j, j < n → ∃ k, k ≤ 999 ∧ ks j = nI k) : ∀ (d j m N : Nat) (t : Nat → Nat) (line : Nat → Int32), j + d = n → d < m → N + 4 * d ≤ 118 → WL t N line →
    ∃ line', F_X8_line_79 fl a m (nI N) T line lev (nI (nx n ts lev j)) = some (nI (lnL ks ts lev d j t N).2, nI (lnL ks ts lev d j t N).2, T, line') ∧ WL (lnL ks ts lev d j t N).1 (lnL ks ts lev d j t N).2 line' := by
  intro d
  induction d with
  | zero =>
    intro j m N t line hj hm hN hW
    obtain ⟨m, rfl⟩ : ∃ q, m = q + 1 := ⟨m - 1, by omega⟩
    obtain rfl : j = n := by omega
    rw [F_X8_line_79, gl0, c0, hM.1, nx_end, if_pos ((nI_leI (by omega) (by omega)).mpr (Nat.le_refl _))]
    exact ⟨_, rfl, hW⟩
  | succ d ih =>
    intro j m N t line hj hm hN hW
    obtain ⟨m, rfl⟩ : ∃ q, m = q + 1 := ⟨m - 1, by omega⟩
    by_cases c : lev < ts j
    · obtain ⟨k, k1, k2⟩ := hk j (by omega)
      have e : lnL ks ts lev (d + 1) j t N = lnL ks ts lev d (j + 1) (sb_cat (sb_cat t N (fun _ => 32)) (N + 1) (sb_dec k)) (N + 1 + sb_dg k) := by rw [lnL, if_pos c, k2, nI_clamp (by omega)]
      have h3 := dg3 (k := k) (by omega)
      rw [e, nx_here (by omega) c, F_X8_line_79, gl0, c0, hM.1, if_neg (fun q => by have := (nI_leI (by omega) (by omega)).mp q; omega), g120 (by omega), q_key (by omega), bn_e, (hM.2.2.2.2.2 j (by omega)).1, k2, nI_1, nI_clamp (n := N) (by omega), nr32, q_w2 (by omega) (by omega), bn2_e, q_next hn hf hM (nI_1 j) (by omega), bn_e]
      exact ih (j + 1) m (N + 1 + sb_dg k) _ _ (by omega) (by omega) (by omega) (wl_dec (wl_1 hW (by decide)) (by omega))
    · have e : lnL ks ts lev (d + 1) j t N = lnL ks ts lev d (j + 1) t N := by rw [lnL, if_neg c]
      rw [e, nx_skip (by omega) c]
      exact ih (j + 1) (m + 1) N t line (by omega) (by omega) (by omega) hW
theorem hP0 : (-1 : Int32) + 1 = nI 0 := by decide
/-- a line: the level told, the text -/
theorem m_line (hf : 2000 ≤ fl) (hL : LL z hid ks ws ts cn ct' ch a) : ∃ kk b ln2 th2 line2, F_X7_demandLevel fl p1 = some kk ∧ F_X8_line fl ln th a line p1 = some (b, ln2, th2, line2) ∧
    ((kk = 0 ∧ th2 = 0 ∧ (∃ L, L ≤ 4 ∧ p1 = nI L) ∧ b = nI (lnT z.toNatClampNeg ks ts hid p1).2 ∧ ln2 = nI (lnT z.toNatClampNeg ks ts hid p1).2 ∧ WL (lnT z.toNatClampNeg ks ts hid p1).1 (lnT z.toNatClampNeg ks ts hid p1).2 line2) ∨ (kk = 3 ∧ th2 = 1 ∧ ln2 = ln ∧ line2 = line)) := by
  obtain ⟨n, rfl, hl, hM⟩ := hL
  have hn := hl.1
  rw [p_demandLevel]
  unfold F_X8_line
  rw [q_isLevel, bn_e, nI_clamp (n := n) (by omega)]
  by_cases c : inR 0 4 p1 = true
  · rw [if_pos c, if_pos c, if_neg (by decide)]
    obtain ⟨L, -, hL4, rfl⟩ := inR_n (lo := 0) (hi := 4) c (by decide) (by decide)
    have eD : sb_dg L = 1 := if_pos (by omega)
    have w0 := wl_dec (line := line) (t := fun _ => 0) (N := 0) (v := L) (fun j hj => by omega) (by omega)
    have e0 : F_X8_writesNumber2 fl (0 : Int32) line (nI L) = some (nI (0 + sb_dg L), w2B line 0 L) := q_w2 (N := 0) (by omega) (by omega)
    rw [e0, bn2_e, q_isOut hM, bn_e]
    cases hh : hb hid (nI L) with
    | true =>
      have eT : lnT n ks ts hid (nI L) = lnL ks ts (nI L) n 0 (sb_cat (sb_cat (sb_cat (fun _ => 0) 0 (sb_dec L)) (0 + sb_dg L) (fun _ => 33)) (0 + sb_dg L + 1) (fun _ => 58)) (0 + sb_dg L + 1 + 1) := by unfold lnT; rw [hh, nI_clamp (by omega)]; rfl
      rw [if_pos rfl, if_neg (by decide), g120 (by omega), nI_1, g120 (by omega), q_next hn hf hM hP0 (Nat.zero_le n), bn_e, nI_1, nI_clamp (by omega), nI_clamp (by omega), nr33, nr58, eT]
      obtain ⟨line', e1, e2⟩ := q_lineL (T := 0) (lev := nI L) hn hf hM hl.2.2.2.1 n 0 fl (0 + sb_dg L + 1 + 1) _ _ (by omega) (by omega) (by omega) (wl_1 (wl_1 w0 (show 33 < 256 by decide)) (show 58 < 256 by decide))
      exact ⟨_, _, _, _, _, rfl, e1, Or.inl ⟨rfl, rfl, ⟨L, hL4, rfl⟩, rfl, rfl, e2⟩⟩
    | false =>
      have eT : lnT n ks ts hid (nI L) = lnL ks ts (nI L) n 0 (sb_cat (sb_cat (fun _ => 0) 0 (sb_dec L)) (0 + sb_dg L) (fun _ => 58)) (0 + sb_dg L + 1) := by unfold lnT; rw [hh, nI_clamp (by omega)]; rfl
      rw [if_pos (show (if false = true then (1 : Int32) else 0) = 0 from rfl), g120 (by omega), q_next hn hf hM hP0 (Nat.zero_le n), bn_e, nI_1, nI_clamp (by omega), nr58, eT]
      obtain ⟨line', e1, e2⟩ := q_lineL (T := 0) (lev := nI L) hn hf hM hl.2.2.2.1 n 0 fl (0 + sb_dg L + 1) _ _ (by omega) (by omega) (by omega) (wl_1 w0 (show 58 < 256 by decide))
      exact ⟨_, _, _, _, _, rfl, e1, Or.inl ⟨rfl, rfl, ⟨L, hL4, rfl⟩, rfl, rfl, e2⟩⟩
  · rw [if_neg c, if_neg c, if_pos rfl]
    unfold F_X8_raises
    rw [bn2_e]
    exact ⟨_, _, _, _, _, rfl, rfl, Or.inr ⟨rfl, rfl, rfl, rfl⟩⟩
/-- a sign of the text -/
theorem m_character {t : Nat → Nat} {N : Nat} (hN : N ≤ 120) (hW : WL t N line) : (∃ i, i < N ∧ p1 = nI i ∧ F_X8_character fl (nI N) th line p1 = some (nI (t i), 0)) ∨ ((p1 < 0 ∨ nI N ≤ p1) ∧ ∃ b, F_X8_character fl (nI N) th line p1 = some (b, 1)) := by
  unfold F_X8_character
  rw [q_in, bn_e]
  by_cases c : inR 0 (nI N - 1) p1 = true
  · left
    obtain ⟨h1, h2⟩ := of_decide_eq_true c
    have h0 : ¬ p1 < 0 := (le_iff_nlt _ _).mp h1
    obtain ⟨i, hi, rfl⟩ := nI_of h0
    have hN0 : N ≠ 0 := fun q => by
      subst q
      have : nI i ≤ (-1 : Int32) := h2
      rw [Int32.le_iff_toInt_le, nI_toInt hi] at this
      have e : (-1 : Int32).toInt = -1 := by decide
      omega
    have hi2 : i < N := by
      rw [show nI N - 1 = nI (N - 1) from pk_sub (a := N) (b := 1) (by omega)] at h2
      have := (nI_leI hi (by omega)).mp h2
      omega
    obtain ⟨g1, g2⟩ := hW i hi2
    refine ⟨i, hi2, rfl, ?_⟩
    rw [if_pos c, if_neg (by decide), if_pos rfl, g120 (by omega), nI_clamp (by omega), g2, gd_e (show okC (nI (t i)) = true from decide_eq_true ⟨(nlt_iff_le _ _).mp (nI_nlt0 (by omega)), (nI_leI (b := 65535) (by omega) (by omega)).mpr (by omega)⟩)]
  · right
    refine ⟨?_, ?_⟩
    · by_cases h0 : p1 < 0
      · exact Or.inl h0
      · right
        obtain ⟨i, hi, rfl⟩ := nI_of h0
        refine (nI_leI (by omega) hi).mpr (Nat.le_of_not_lt (fun q => c (decide_eq_true ⟨(nlt_iff_le _ _).mp h0, ?_⟩)))
        rw [show nI N - 1 = nI (N - 1) from pk_sub (a := N) (b := 1) (by omega)]
        exact (nI_leI hi (by omega)).mpr (by omega)
    · rw [if_neg c, if_pos rfl, if_neg (by decide), gd_e (by decide)]
      exact ⟨_, rfl⟩
