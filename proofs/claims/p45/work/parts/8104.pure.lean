/-! the reference's methods over its row of numbers -/
/-- the row a holds a ladder -/
def MR (n : Nat) (ks ws ts : Nat → Int32) (cn ct ch hid : Int32) (a : Nat → Int32) : Prop :=
  a 0 = nI n ∧ a 1 = cn ∧ a 2 = ct ∧ a 3 = ch ∧ a 4 = hid ∧ ∀ j, j < n → a (5 + 3 * j) = ks j ∧ a (6 + 3 * j) = ws j ∧ a (7 + 3 * j) = ts j
theorem c0 : (0 : Int32).toNatClampNeg = 0 := rfl
theorem c1 : (1 : Int32).toNatClampNeg = 1 := rfl
theorem c2 : (2 : Int32).toNatClampNeg = 2 := rfl
theorem c3 : (3 : Int32).toNatClampNeg = 3 := rfl
theorem c4 : (4 : Int32).toNatClampNeg = 4 := rfl
theorem g_lit {α : Type} {k N : Nat} {x : Option α} (h : k < N) (hN : N < 2 ^ 31) : gi (nI k) N x = x := gi_e (vp_in_nI h hN)
theorem gl0 {α : Type} {x : Option α} : gi (0 : Int32) 77 x = x := g_lit (k := 0) (by decide) (by decide)
theorem gl1 {α : Type} {x : Option α} : gi (1 : Int32) 77 x = x := g_lit (k := 1) (by decide) (by decide)
theorem gl2 {α : Type} {x : Option α} : gi (2 : Int32) 77 x = x := g_lit (k := 2) (by decide) (by decide)
theorem gl3 {α : Type} {x : Option α} : gi (3 : Int32) 77 x = x := g_lit (k := 3) (by decide) (by decide)
theorem gl4 {α : Type} {x : Option α} : gi (4 : Int32) 77 x = x := g_lit (k := 4) (by decide) (by decide)
section MODEL
variable {fl n : Nat} {ks ws ts a : Nat → Int32} {key lev hid cn ct' ch : Int32}
theorem ix0 (j : Nat) : (5 : Int32) + ((3 : Int32) * nI j) = nI (5 + 3 * j) := by rw [l5, l3, pk_mul, nI_add]
theorem ix1 (j : Nat) : ((5 : Int32) + ((3 : Int32) * nI j)) + (1 : Int32) = nI (6 + 3 * j) := by rw [ix0, nI_1, show 5 + 3 * j + 1 = 6 + 3 * j by omega]
theorem ix2 (j : Nat) : ((5 : Int32) + ((3 : Int32) * nI j)) + (2 : Int32) = nI (7 + 3 * j) := by rw [ix0, l2, nI_add, show 5 + 3 * j + 2 = 7 + 3 * j by omega]
theorem q_key {j : Nat} (hj : j < 24) : F_X8_key fl a (nI j) = some (a (5 + 3 * j)) := by
  unfold F_X8_key
  rw [ix0, gi_e (vp_in_nI (by omega) (by omega)), nI_clamp (by omega)]
theorem q_weight {j : Nat} (hj : j < 24) : F_X8_weight fl a (nI j) = some (a (6 + 3 * j)) := by
  unfold F_X8_weight
  rw [ix1, gi_e (vp_in_nI (by omega) (by omega)), nI_clamp (by omega)]
theorem q_rungs {j : Nat} (hj : j < 24) : F_X8_rungs fl a (nI j) = some (a (7 + 3 * j)) := by
  unfold F_X8_rungs
  rw [ix2, gi_e (vp_in_nI (by omega) (by omega)), nI_clamp (by omega)]
theorem q_isOut (h : MR n ks ws ts cn ct' ch hid a) : F_X8_isOut fl a lev = some (if hb hid lev then 1 else 0) := by
  unfold F_X8_isOut hb
  rw [gl4, c4, h.2.2.2.2.1]
  by_cases h : ((hid >>> (lev &&& 31)) &&& (1 : Int32)) = (1 : Int32)
  · rw [if_pos h, if_pos (decide_eq_true h)]
  · rw [if_neg h, if_neg (fun q => h (of_decide_eq_true q))]
/-- how many folders have lower keys, or that key -/
def lwA (n : Nat) (ks : Nat → Int32) (key : Int32) : Nat := fi (fun i => !decide (ks i < key ∨ ks i = key)) n 0
theorem q_lowL (hn : n ≤ 24) (h : MR n ks ws ts cn ct' ch hid a) : ∀ (d j m : Nat), j + d = n → d < m → F_X8_lower_2 fl a m key 0 (nI j) = some (nI (fi (fun i => decide (key ≤ ks i)) d j)) := by
  intro d
  induction d with
  | zero =>
    intro j m hj hm
    obtain ⟨m, rfl⟩ : ∃ q, m = q + 1 := ⟨m - 1, by omega⟩
    rw [F_X8_lower_2, gl0, c0, h.1, if_pos ((nI_leI (by omega) (by omega)).mpr (by omega))]; rfl
  | succ d ih =>
    intro j m hj hm
    obtain ⟨m, rfl⟩ : ∃ q, m = q + 1 := ⟨m - 1, by omega⟩
    rw [F_X8_lower_2, gl0, c0, h.1, if_neg (fun q => by have := (nI_leI (by omega) (by omega)).mp q; omega), q_key (by omega), bn_e, (h.2.2.2.2.2 j (by omega)).1, fi]
    by_cases h2 : key ≤ ks j
    · rw [if_neg ((le_iff_nlt _ _).mp h2), if_pos rfl, if_pos (decide_eq_true h2)]
    · rw [if_pos (Decidable.byContradiction (fun z => h2 ((nlt_iff_le _ _).mp z))), if_neg (fun q => h2 (of_decide_eq_true q)), nI_1, ih (j + 1) m (by omega) (by omega)]
theorem q_lower (hn : n ≤ 24) (hf : 2000 ≤ fl) (h : MR n ks ws ts cn ct' ch hid a) : F_X8_lower fl a key 0 = some (nI (lw n ks key)) := q_lowL hn h n 0 fl (by omega) (by omega)
theorem q_lowAL (hn : n ≤ 24) (h : MR n ks ws ts cn ct' ch hid a) : ∀ (d j m : Nat), j + d = n → d < m → F_X8_lower_2 fl a m key 1 (nI j) = some (nI (fi (fun i => !decide (ks i < key ∨ ks i = key)) d j)) := by
  intro d
  induction d with
  | zero =>
    intro j m hj hm
    obtain ⟨m, rfl⟩ : ∃ q, m = q + 1 := ⟨m - 1, by omega⟩
    rw [F_X8_lower_2, gl0, c0, h.1, if_pos ((nI_leI (by omega) (by omega)).mpr (by omega))]; rfl
  | succ d ih =>
    intro j m hj hm
    obtain ⟨m, rfl⟩ : ∃ q, m = q + 1 := ⟨m - 1, by omega⟩
    rw [F_X8_lower_2, gl0, c0, h.1, if_neg (fun q => by have := (nI_leI (by omega) (by omega)).mp q; omega), q_key (by omega), bn_e, (h.2.2.2.2.2 j (by omega)).1, fi]
    by_cases h1 : ks j < key
    · rw [if_pos h1, if_neg (by simp [h1]), nI_1, ih (j + 1) m (by omega) (by omega)]
    · rw [if_neg h1, if_neg (by decide), bn_e]
      by_cases h2 : ks j = key
      · rw [if_pos h2, if_neg (by simp [h2]), nI_1, ih (j + 1) m (by omega) (by omega)]
      · rw [if_neg h2, if_pos (by simp [h1, h2])]
theorem q_lowerA (hn : n ≤ 24) (hf : 2000 ≤ fl) (h : MR n ks ws ts cn ct' ch hid a) : F_X8_lower fl a key 1 = some (nI (lwA n ks key)) := q_lowAL hn h n 0 fl (by omega) (by omega)
theorem lwA_le : lwA n ks key ≤ n := by have := (fi_le (fun i => !decide (ks i < key ∨ ks i = key)) n 0).2; unfold lwA; omega
theorem q_find (hn : n ≤ 24) (hf : 2000 ≤ fl) (h : MR n ks ws ts cn ct' ch hid a) : F_X8_find fl a key = some (match pw n ks key with | some j => nI j | none => -1) := by
  unfold F_X8_find pw
  have h1 := lw_le (n := n) (ks := ks) (key := key)
  rw [q_lower hn hf h, bn_e, gl0, c0, h.1]
  by_cases h3 : lw n ks key < n
  · rw [if_neg (fun q => by have := (nI_leI (by omega) (by omega)).mp q; omega), q_key (by omega), bn_e, (h.2.2.2.2.2 _ h3).1]
    by_cases h2 : ks (lw n ks key) = key
    · rw [if_pos h2, if_pos ⟨h3, h2⟩]
    · rw [if_neg h2, if_neg (fun q => h2 q.2)]
  · rw [if_pos ((nI_leI (by omega) (by omega)).mpr (by omega)), if_neg (fun q => h3 q.1)]
theorem q_sizeL (hn : n ≤ 24) (h : MR n ks ws ts cn ct' ch hid a) : ∀ (d j m : Nat), j + d = n → d < m → F_X8_sizeOf_4 fl a m lev (nI (ct (rg n ts lev) j)) (nI j) = some (nI (ct (rg n ts lev) n)) := by
  intro d
  induction d with
  | zero =>
    intro j m hj hm
    obtain ⟨m, rfl⟩ : ∃ q, m = q + 1 := ⟨m - 1, by omega⟩
    obtain rfl : j = n := by omega
    rw [F_X8_sizeOf_4, gl0, c0, h.1, if_pos ((nI_leI (by omega) (by omega)).mpr (by omega))]
  | succ d ih =>
    intro j m hj hm
    obtain ⟨m, rfl⟩ : ∃ q, m = q + 1 := ⟨m - 1, by omega⟩
    rw [F_X8_sizeOf_4, gl0, c0, h.1, if_neg (fun q => by have := (nI_leI (by omega) (by omega)).mp q; omega), q_rungs (by omega), bn_e, (h.2.2.2.2.2 j (by omega)).2.2]
    have h3 := ih (j + 1) m (by omega) (by omega)
    rw [ct] at h3
    by_cases h2 : lev < ts j
    · have h4 : rg n ts lev j = true := decide_eq_true ⟨by omega, h2⟩
      rw [if_neg (fun q => (le_iff_nlt _ _).mp q h2), nI_1, nI_1]; rw [if_pos h4] at h3; exact h3
    · have h4 : ¬ rg n ts lev j = true := fun q => h2 (of_decide_eq_true q).2
      rw [if_pos ((nlt_iff_le _ _).mp h2), nI_1]; rw [if_neg h4] at h3; exact h3
theorem q_sizeOf (hn : n ≤ 24) (hf : 2000 ≤ fl) (h : MR n ks ws ts cn ct' ch hid a) : F_X8_sizeOf fl a lev = some (nI (ct (rg n ts lev) n)) := q_sizeL hn h n 0 fl (by omega) (by omega)
theorem q_nextL (hn : n ≤ 24) (h : MR n ks ws ts cn ct' ch hid a) {x : Int32} : ∀ (d j m : Nat), j + d = n → d < m → F_X8_next_4 fl a m x lev (nI j) = some (nI (fi (rg n ts lev) d j)) := by
  intro d
  induction d with
  | zero =>
    intro j m hj hm
    obtain ⟨m, rfl⟩ : ∃ q, m = q + 1 := ⟨m - 1, by omega⟩
    rw [F_X8_next_4, gl0, c0, h.1, if_pos ((nI_leI (by omega) (by omega)).mpr (by omega))]; rfl
  | succ d ih =>
    intro j m hj hm
    obtain ⟨m, rfl⟩ : ∃ q, m = q + 1 := ⟨m - 1, by omega⟩
    rw [F_X8_next_4, gl0, c0, h.1, if_neg (fun q => by have := (nI_leI (by omega) (by omega)).mp q; omega), q_rungs (by omega), bn_e, (h.2.2.2.2.2 j (by omega)).2.2, fi]
    by_cases h2 : lev < ts j
    · rw [if_pos h2, if_pos (show rg n ts lev j = true from decide_eq_true ⟨by omega, h2⟩)]
    · rw [if_neg h2, if_neg (show ¬ rg n ts lev j = true from fun q => h2 (of_decide_eq_true q).2), nI_1, ih (j + 1) m (by omega) (by omega)]
theorem q_next (hn : n ≤ 24) (hf : 2000 ≤ fl) (h : MR n ks ws ts cn ct' ch hid a) {P : Int32} {q : Nat} (hP : P + 1 = nI q) (hq : q ≤ n) : F_X8_next fl a P lev = some (nI (nx n ts lev q)) := by
  unfold F_X8_next
  rw [hP]
  exact q_nextL hn h (n - q) q fl (by omega) (by omega)
/-- a level has a folder just where a tower is higher -/
theorem ct_pos (p : Nat → Bool) : ∀ d, 0 < ct p d ↔ ∃ j, j < d ∧ p j = true := by
  intro d
  induction d with
  | zero => exact ⟨fun h => absurd h (Nat.lt_irrefl 0), fun ⟨j, h, _⟩ => absurd h (Nat.not_lt_zero j)⟩
  | succ d ih =>
    rw [ct]
    constructor
    · intro h
      by_cases e : p d = true
      · exact ⟨d, by omega, e⟩
      · rw [if_neg e] at h
        obtain ⟨j, h1, h2⟩ := ih.mp h
        exact ⟨j, by omega, h2⟩
    · rintro ⟨j, h1, h2⟩
      by_cases e : j = d
      · subst e; rw [if_pos h2]; omega
      · have := ih.mpr ⟨j, by omega, h2⟩; omega
theorem lev_has (ht : tw n ts) {L : Nat} (hL : L ≤ 4) : 0 < ct (rg n ts (nI L)) n ↔ L < mx n ts n := by
  rw [ct_pos]
  constructor
  · rintro ⟨j, h1, h2⟩
    obtain ⟨t, a1, a2, a3⟩ := ht j h1
    have h3 := (of_decide_eq_true h2).2
    rw [a3] at h3
    have h4 := (nI_ltI (by omega) (by omega)).mp h3
    have h5 := mx_ge (n := n) (ts := ts) h1
    rw [a3, nI_clamp (by omega)] at h5
    omega
  · intro h
    obtain ⟨j, h1, h2⟩ := mx_at (n := n) (ts := ts) n (by omega)
    obtain ⟨t, a1, a2, a3⟩ := ht j h1
    rw [a3, nI_clamp (by omega)] at h2
    exact ⟨j, h1, decide_eq_true ⟨h1, by rw [a3]; exact nI_lt (by omega) (by omega)⟩⟩
theorem q_begL (hn : n ≤ 24) (hf : 2000 ≤ fl) (ht : tw n ts) (h : MR n ks ws ts cn ct' ch hid a) : ∀ (L m : Nat), L ≤ 4 → L < m → F_X8_begins_2 fl a m (nI L) = some (nI (us hid (min L (mx n ts n - 1)))) := by
  intro L
  induction L with
  | zero =>
    intro m hL hm
    obtain ⟨m, rfl⟩ : ∃ q, m = q + 1 := ⟨m - 1, by omega⟩
    rw [F_X8_begins_2, if_pos (by decide), Nat.zero_min]; rfl
  | succ L ih =>
    intro m hL hm
    obtain ⟨m, rfl⟩ : ∃ q, m = q + 1 := ⟨m - 1, by omega⟩
    rw [F_X8_begins_2, if_neg (nI_nle (by omega) (by omega)), q_isOut h, bn_e, nI_m1]
    have hs := lev_has (n := n) (ts := ts) ht hL
    by_cases hc : L + 1 < mx n ts n
    · rw [Nat.min_eq_left (by omega), us]
      have e1 := ih m (by omega) (by omega)
      rw [Nat.min_eq_left (by omega)] at e1
      by_cases h2 : hb hid (nI (L + 1)) = true
      · rw [if_pos h2, if_neg (by decide), if_pos h2, e1]
      · have h3 := hs.mpr hc
        have h4 := ct_le (rg n ts (nI (L + 1))) n
        rw [if_neg h2, if_pos rfl, q_sizeOf hn hf h, bn_e, if_neg (nI_ne0 h3 (by omega)), if_neg h2]
    · have e1 := ih m (by omega) (by omega)
      rw [show min (L + 1) (mx n ts n - 1) = min L (mx n ts n - 1) by omega]
      have h3 : ct (rg n ts (nI (L + 1))) n = 0 := by
        rcases Nat.eq_zero_or_pos (ct (rg n ts (nI (L + 1))) n) with z | z
        · exact z
        · exact absurd (hs.mp z) hc
      by_cases h2 : hb hid (nI (L + 1)) = true
      · rw [if_pos h2, if_neg (by decide), e1]
      · rw [if_neg h2, if_pos rfl, q_sizeOf hn hf h, bn_e, h3, if_pos nI_0, e1]
theorem q_begins (hn : n ≤ 24) (hf : 2000 ≤ fl) (ht : tw n ts) (hm : mx n ts n ≤ 5) (h : MR n ks ws ts cn ct' ch hid a) : F_X8_begins fl a = some (nI (bg n ts hid)) := by
  have := q_begL hn hf ht h 4 fl (by omega) (by omega)
  rw [Nat.min_eq_right (by omega)] at this
  exact this
end MODEL
