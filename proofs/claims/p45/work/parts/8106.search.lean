section SEARCH2
variable {fl n : Nat} {ks ws ts a : Nat → Int32} {key lev hid cn ct' ch : Int32}
theorem q_inner (h : MR n ks ws ts cn ct' ch hid a) {g f : Int32} {way : Nat → Int32} {x1 x3 x4 : Int32} : ∀ (L m : Nat), L ≤ 5 → L < m → F_X8_searches_77 fl a g f way x1 x3 x4 m (nI L) = some (nI (us hid L)) := by
  intro L
  induction L with
  | zero =>
    intro m hL hm
    obtain ⟨m, rfl⟩ : ∃ q, m = q + 1 := ⟨m - 1, by omega⟩
    rw [F_X8_searches_77, if_pos (by decide)]; rfl
  | succ L ih =>
    intro m hL hm
    obtain ⟨m, rfl⟩ : ∃ q, m = q + 1 := ⟨m - 1, by omega⟩
    rw [F_X8_searches_77, if_neg (nI_nle (by omega) (by omega)), q_isOut h, bn_e, us]
    by_cases h2 : hb hid (nI (L + 1)) = true
    · rw [if_pos h2, if_neg (by decide), if_pos h2, nI_m1, ih m (by omega) (by omega)]
    · rw [if_neg h2, if_pos rfl, if_neg h2]
theorem q_innerM (hf : 2000 ≤ fl) {g f : Int32} {way : Nat → Int32} {x1 x3 x4 : Int32} : F_X8_searches_77 fl a g f way x1 x3 x4 fl (-1) = some (-1) := by
  obtain ⟨m, rfl⟩ : ∃ q, fl = q + 1 := ⟨fl - 1, by omega⟩
  rw [F_X8_searches_77, if_pos (by decide)]
theorem q_searchL (hn : n ≤ 24) (hf : 2000 ≤ fl) (h : MR n ks ws ts cn ct' ch hid a) : ∀ (f q L g fa m : Nat) (way : Nat → Int32), n - q + L < f → q ≤ n → L ≤ 4 → g ≤ q → n - q + L + 3 ≤ m →
    ∃ way', F_X8_searches_17 fl a m (nI g) (nI fa) way key (nI L) (pl q) = some (nI (g + (sr n ks ts hid key f q L).1.length + (fa + (sr n ks ts hid key f q L).2.1)), nI (g + (sr n ks ts hid key f q L).1.length), nI (fa + (sr n ks ts hid key f q L).2.1), way') ∧
      (∀ i, i < (sr n ks ts hid key f q L).1.length → way' (g + i) = nI ((sr n ks ts hid key f q L).1.getD i 0)) ∧ ∀ i, i < g → way' i = way i := by
  intro f
  induction f with
  | zero => intro q L g fa m way hμ; omega
  | succ f ih =>
    intro q L g fa m way hμ hq hL hg hm
    obtain ⟨m, rfl⟩ : ∃ z, m = z + 1 := ⟨m - 1, by omega⟩
    have h0 := nx_le (ts := ts) (lev := nI L) q hq
    have hfall : ¬ (nx n ts (nI L) q < n ∧ ks (nx n ts (nI L) q) < key) → ∀ r24, (bn (F_X8_searches_77 fl a (nI g) (nI fa) way key (pl q) r24 fl (nI L + (-1 : Int32))) fun x2o => if x2o < 0 then (F_X8_searches_17 fl a m (nI g) (nI fa) way key x2o (pl q)) else (F_X8_searches_17 fl a m (nI g) (nI fa + (1 : Int32)) way key x2o (pl q))) =
        if L = 0 then some (nI (g + fa), nI g, nI fa, way) else F_X8_searches_17 fl a m (nI g) (nI (fa + 1)) way key (nI (us hid (L - 1))) (pl q) := by
      intro _ r24
      by_cases hL0 : L = 0
      · subst hL0
        obtain ⟨m, rfl⟩ : ∃ z, m = z + 1 := ⟨m - 1, by omega⟩
        rw [show nI 0 + (-1 : Int32) = -1 from rfl, q_innerM hf, bn_e, if_pos (by decide), if_pos rfl, F_X8_searches_17, if_pos (by decide), nI_add]
      · obtain ⟨L, rfl⟩ : ∃ z, L = z + 1 := ⟨L - 1, by omega⟩
        rw [nI_m1, q_inner h L fl (by omega) (by omega), bn_e, if_neg (nI_pos (by have := us_le (hid := hid) L; omega)), if_neg hL0, nI_1]; rfl
    have e1 : F_X8_searches_17 fl a (m + 1) (nI g) (nI fa) way key (nI L) (pl q) = if nx n ts (nI L) q < n ∧ ks (nx n ts (nI L) q) < key then F_X8_searches_17 fl a m (nI (g + 1)) (nI fa) (upd way g (nI (nx n ts (nI L) q))) key (nI L) (pl (nx n ts (nI L) q + 1)) else (if L = 0 then some (nI (g + fa), nI g, nI fa, way) else F_X8_searches_17 fl a m (nI g) (nI (fa + 1)) way key (nI (us hid (L - 1))) (pl q)) := by
      rw [F_X8_searches_17, if_neg (nI_pos (by omega)), q_next hn hf h (pl_1 q) hq, bn_e, gl0, c0, h.1]
      by_cases hx : nx n ts (nI L) q < n
      · rw [if_neg (fun z => by have := (nI_leI (by omega) (by omega)).mp z; omega), q_key (by omega), bn_e, (h.2.2.2.2.2 _ hx).1]
        by_cases hc : ks (nx n ts (nI L) q) < key
        · rw [if_neg (fun z => (le_iff_nlt _ _).mp z hc), if_pos ⟨hx, hc⟩, gi_e (vp_in_nI (by omega) (by omega)), nI_clamp (by omega), nI_1, pl_s]
        · have hc2 : ¬ (nx n ts (nI L) q < n ∧ ks (nx n ts (nI L) q) < key) := fun z => hc z.2
          rw [if_pos ((nlt_iff_le _ _).mp hc), hfall hc2, if_neg hc2]
      · have hc2 : ¬ (nx n ts (nI L) q < n ∧ ks (nx n ts (nI L) q) < key) := fun z => hx z.1
        rw [if_pos ((nI_leI (by omega) (by omega)).mpr (by omega)), hfall hc2, if_neg hc2]
    rw [e1]
    by_cases hc : nx n ts (nI L) q < n ∧ ks (nx n ts (nI L) q) < key
    · have hs : sr n ks ts hid key (f + 1) q L = (nx n ts (nI L) q :: (sr n ks ts hid key f (nx n ts (nI L) q + 1) L).1, (sr n ks ts hid key f (nx n ts (nI L) q + 1) L).2) := by rw [sr, if_pos hc]
      rw [if_pos hc, hs]
      obtain ⟨way', h1, h2, h3⟩ := ih (nx n ts (nI L) q + 1) L (g + 1) fa m (upd way g (nI (nx n ts (nI L) q))) (by omega) (by omega) hL (by omega) (by omega)
      refine ⟨way', ?_, fun i hi => ?_, fun i hi => ?_⟩
      · rw [h1]
        simp only [List.length_cons]
        rw [show g + 1 + (sr n ks ts hid key f (nx n ts (nI L) q + 1) L).1.length = g + ((sr n ks ts hid key f (nx n ts (nI L) q + 1) L).1.length + 1) by omega]
      · simp only [List.length_cons] at hi
        cases i with
        | zero => rw [Nat.add_zero, h3 g (by omega), pk_us]; rfl
        | succ i => rw [show g + (i + 1) = g + 1 + i by omega, h2 i (by omega)]; rfl
      · rw [h3 i (by omega), pk_un (by omega)]
    · rw [if_neg hc]
      by_cases hL0 : L = 0
      · subst hL0
        have hs : sr n ks ts hid key (f + 1) q 0 = ([], 0, q) := by rw [sr, if_neg hc, if_pos rfl]
        rw [if_pos rfl, hs]
        exact ⟨way, rfl, fun i hi => absurd hi (Nat.not_lt_zero i), fun i _ => rfl⟩
      · have hs : sr n ks ts hid key (f + 1) q L = ((sr n ks ts hid key f q (us hid (L - 1))).1, (sr n ks ts hid key f q (us hid (L - 1))).2.1 + 1, (sr n ks ts hid key f q (us hid (L - 1))).2.2) := by rw [sr, if_neg hc, if_neg hL0]
        rw [if_neg hL0, hs]
        have hu := us_le (hid := hid) (L - 1)
        obtain ⟨way', h1, h2, h3⟩ := ih q (us hid (L - 1)) g (fa + 1) m way (by omega) hq (by omega) hg (by omega)
        refine ⟨way', ?_, h2, h3⟩
        rw [h1]
        simp only
        rw [show fa + 1 + (sr n ks ts hid key f q (us hid (L - 1))).2.1 = fa + ((sr n ks ts hid key f q (us hid (L - 1))).2.1 + 1) by omega]
theorem q_searches (hn : n ≤ 24) (hf : 2000 ≤ fl) (ht : tw n ts) (hm : mx n ts n ≤ 5) (h : MR n ks ws ts cn ct' ch hid a) {g f : Int32} {way : Nat → Int32} :
    ∃ way', F_X8_searches fl g f a way key = some (nI ((SR n ks ts hid key).1.length + (SR n ks ts hid key).2.1), nI (SR n ks ts hid key).1.length, nI (SR n ks ts hid key).2.1, way') ∧ ∀ i, i < (SR n ks ts hid key).1.length → way' i = nI ((SR n ks ts hid key).1.getD i 0) := by
  unfold F_X8_searches SR
  have hb := bg_le (hid := hid) hm
  rw [q_begins hn hf ht hm h, bn_e]
  obtain ⟨way', h1, h2, -⟩ := q_searchL (fl := fl) (key := key) hn hf h 40 0 (bg n ts hid) 0 0 fl way (by omega) (Nat.zero_le _) hb (Nat.zero_le _) (by omega)
  refine ⟨way', ?_, fun i hi => by have := h2 i hi; rw [Nat.zero_add] at this; exact this⟩
  rw [Nat.zero_add, Nat.zero_add] at h1
  exact h1
/-- the keys rise -/
def so (n : Nat) (ks : Nat → Int32) : Prop := ∀ i j, i < j → j < n → ks i < ks j
theorem lt_tr {x y z : Int32} (h1 : x < y) (h2 : y < z) : x < z := by rw [Int32.lt_iff_toInt_lt] at *; omega
theorem lt_le_tr {x y z : Int32} (h1 : x < y) (h2 : y ≤ z) : x < z := by rw [Int32.lt_iff_toInt_lt] at *; rw [Int32.le_iff_toInt_le] at h2; omega
theorem le_lt_tr {x y z : Int32} (h1 : x ≤ y) (h2 : y < z) : x < z := by rw [Int32.lt_iff_toInt_lt] at *; rw [Int32.le_iff_toInt_le] at h1; omega
theorem so_le (hs : so n ks) {i j : Nat} (h : i ≤ j) (hj : j < n) : ks i ≤ ks j := by
  by_cases e : i = j
  · subst e; rw [Int32.le_iff_toInt_le]; omega
  · have := hs i j (by omega) hj; rw [Int32.lt_iff_toInt_lt] at this; rw [Int32.le_iff_toInt_le]; omega
theorem lw_eq (hs : so n ks) {q : Nat} (hq : q ≤ n) (h1 : ∀ i, i < q → ks i < key) (h2 : q < n → key ≤ ks q) : lw n ks key = q := by
  unfold lw
  exact fi_eq _ (Nat.zero_le _) (by omega) (fun i _ hi => decide_eq_false (fun z => (le_iff_nlt _ _).mp z (h1 i hi))) (fun h => decide_eq_true (h2 (by omega)))
theorem lw_lt {i : Nat} (h : i < lw n ks key) : ks i < key := by
  have := fi_no _ _ _ _ (Nat.zero_le i) h
  exact Decidable.byContradiction (fun z => absurd ((nlt_iff_le _ _).mp z) (of_decide_eq_false this))
theorem lw_at (h : lw n ks key < n) : key ≤ ks (lw n ks key) := of_decide_eq_true (fi_yes (fun i => decide (key ≤ ks i)) n 0 (by unfold lw at h; omega))
theorem lw_ge (hs : so n ks) {i : Nat} (h : lw n ks key ≤ i) (hi : i < n) : key ≤ ks i := by
  have h1 := lw_at (n := n) (ks := ks) (key := key) (by omega)
  have h2 := so_le hs h hi
  rw [Int32.le_iff_toInt_le] at *; omega
theorem rg0 (ht : tw n ts) {j : Nat} (h : j < n) : rg n ts (nI 0) j = true := by
  obtain ⟨t, a1, a2, a3⟩ := ht j h
  exact decide_eq_true ⟨h, by rw [a3]; exact nI_lt (by omega) (by omega)⟩
theorem nx0 (ht : tw n ts) {q : Nat} (h : q ≤ n) : nx n ts (nI 0) q = q := by
  unfold nx
  exact fi_eq _ (Nat.le_refl _) (by omega) (fun i h1 h2 => by omega) (fun h2 => rg0 ht (by omega))
/-- a search ends behind the folders with lower keys -/
theorem sr_end (ht : tw n ts) (hs : so n ks) : ∀ (f q L : Nat), n - q + L < f → q ≤ n → (∀ i, i < q → ks i < key) → (sr n ks ts hid key f q L).2.2 = lw n ks key := by
  intro f
  induction f with
  | zero => intro q L hμ; omega
  | succ f ih =>
    intro q L hμ hq hlow
    have h0 := nx_le (ts := ts) (lev := nI L) q hq
    rw [sr]
    by_cases hc : nx n ts (nI L) q < n ∧ ks (nx n ts (nI L) q) < key
    · rw [if_pos hc]
      exact ih _ L (by omega) (by omega) (fun i hi => by
        by_cases e : i = nx n ts (nI L) q
        · rw [e]; exact hc.2
        · exact lt_tr (hs i _ (by omega) hc.1) hc.2)
    · rw [if_neg hc]
      by_cases hL : L = 0
      · subst hL
        rw [if_pos rfl]
        rw [nx0 ht hq] at hc
        exact (lw_eq hs hq hlow (fun h => (nlt_iff_le _ _).mp (fun z => hc ⟨h, z⟩))).symm
      · rw [if_neg hL]
        have hu := us_le (hid := hid) (L - 1)
        exact ih q _ (by omega) hq hlow
theorem SR_end (hn : n ≤ 24) (ht : tw n ts) (hs : so n ks) (hm : mx n ts n ≤ 5) : (SR n ks ts hid key).2.2 = lw n ks key := by
  have hb := bg_le (hid := hid) hm
  exact sr_end ht hs 40 0 _ (by omega) (Nat.zero_le _) (fun i h => absurd h (Nat.not_lt_zero i))
end SEARCH2
