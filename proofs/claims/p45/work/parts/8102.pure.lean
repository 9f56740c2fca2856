/-! the ladder's methods, as numbers -/
theorem l0 : (0 : Int32) = nI 0 := rfl
theorem l1 : (1 : Int32) = nI 1 := rfl
theorem l2 : (2 : Int32) = nI 2 := rfl
theorem l3 : (3 : Int32) = nI 3 := rfl
theorem l4 : (4 : Int32) = nI 4 := rfl
theorem l5 : (5 : Int32) = nI 5 := rfl
theorem l8 : (8 : Int32) = nI 8 := rfl
theorem l24 : (24 : Int32) = nI 24 := rfl
theorem l25 : (25 : Int32) = nI 25 := rfl
theorem l60 : (60 : Int32) = nI 60 := rfl
theorem l77 : (77 : Int32) = nI 77 := rfl
theorem l1000 : (1000 : Int32) = nI 1000 := rfl
/-- the first place from j on, of d places, where p is; j + d without one -/
def fi (p : Nat → Bool) : Nat → Nat → Nat
  | 0, j => j
  | d + 1, j => if p j then j else fi p d (j + 1)
theorem fi_le (p : Nat → Bool) : ∀ d j, j ≤ fi p d j ∧ fi p d j ≤ j + d := by
  intro d
  induction d with
  | zero => intro j; exact ⟨Nat.le_refl _, Nat.le_refl _⟩
  | succ d ih =>
    intro j
    have h := ih (j + 1)
    rw [fi]
    split
    · omega
    · omega
theorem fi_no (p : Nat → Bool) : ∀ d j i, j ≤ i → i < fi p d j → p i = false := by
  intro d
  induction d with
  | zero => intro j i h1 h2; rw [fi] at h2; omega
  | succ d ih =>
    intro j i h1 h2
    rw [fi] at h2
    split at h2
    · omega
    · rename_i hc
      by_cases e : i = j
      · subst e; exact Bool.eq_false_iff.mpr hc
      · exact ih (j + 1) i (by omega) h2
theorem fi_yes (p : Nat → Bool) : ∀ d j, fi p d j < j + d → p (fi p d j) = true := by
  intro d
  induction d with
  | zero => intro j h; rw [fi] at h; omega
  | succ d ih =>
    intro j h
    rw [fi] at h ⊢
    split
    · rename_i hc; exact hc
    · rename_i hc
      rw [if_neg hc] at h
      exact ih (j + 1) (by omega)
theorem fi_eq (p : Nat → Bool) {d j k : Nat} (h1 : j ≤ k) (h2 : k ≤ j + d) (h3 : ∀ i, j ≤ i → i < k → p i = false) (h4 : k < j + d → p k = true) : fi p d j = k := by
  have a := fi_le p d j
  rcases Nat.lt_trichotomy (fi p d j) k with h | h | h
  · have := h3 _ a.1 h
    rw [fi_yes p d j (by omega)] at this
    cases this
  · exact h
  · have h5 := fi_no p d j k h1 h
    rw [h4 (by omega)] at h5
    cases h5
theorem fi_cong {p q : Nat → Bool} : ∀ d j, (∀ i, j ≤ i → i < j + d → p i = q i) → fi p d j = fi q d j := by
  intro d
  induction d with
  | zero => intro j _; rfl
  | succ d ih =>
    intro j h
    rw [fi, fi, h j (Nat.le_refl _) (by omega), ih (j + 1) (fun i h1 h2 => h i (by omega) (by omega))]
theorem le_iff_nlt (x y : Int32) : x ≤ y ↔ ¬ y < x := by rw [Int32.le_iff_toInt_le, Int32.lt_iff_toInt_lt]; omega
theorem nlt_iff_le (x y : Int32) : ¬ x < y ↔ y ≤ x := by rw [Int32.le_iff_toInt_le, Int32.lt_iff_toInt_lt]; omega
section LADDER
variable {fl n : Nat} {ks ws ts : Nat → Int32} {key lev : Int32}
theorem p_holds (hn : n ≤ 24) {j : Nat} (hj : j < 2 ^ 31) : F_X3_holds fl (nI n) (nI j) = some (if j < n then 1 else 0) := by
  unfold F_X3_holds
  rw [if_neg (nI_pos hj), l24]
  by_cases h : n ≤ j
  · rw [if_pos ((nI_leI (by omega) hj).mpr h), if_neg (by omega)]
  · rw [if_neg (fun q => h ((nI_leI (by omega) hj).mp q)), if_neg (fun q => by have := (nI_leI (by omega) hj).mp q; omega), if_pos (by omega)]
theorem p_holdsH : F_X3_holds fl (nI n) (-1) = some 0 := by
  unfold F_X3_holds
  rw [if_pos (by decide)]
theorem p_keyOf (hn : n ≤ 24) {j : Nat} (hj : j < 2 ^ 31) : F_X3_keyOf fl (nI n) ks (nI j) = some (if j < n then ks j else -1) := by
  unfold F_X3_keyOf
  rw [p_holds hn hj, bn_e]
  by_cases h : j < n
  · rw [if_pos h, if_neg (by decide), gi_e (vp_in_nI (by omega) (by omega)), nI_clamp hj, if_pos h]
  · rw [if_neg h, if_pos rfl, if_neg h]
theorem p_keyOfH : F_X3_keyOf fl (nI n) ks (-1) = some (-1) := by
  unfold F_X3_keyOf
  rw [p_holdsH, bn_e, if_pos rfl]
theorem p_weightOf (hn : n ≤ 24) {j : Nat} (hj : j < 2 ^ 31) : F_X3_weightOf fl (nI n) ws (nI j) = some (if j < n then ws j else 0) := by
  unfold F_X3_weightOf
  rw [p_holds hn hj, bn_e]
  by_cases h : j < n
  · rw [if_pos h, if_neg (by decide), gi_e (vp_in_nI (by omega) (by omega)), nI_clamp hj, if_pos h]
  · rw [if_neg h, if_pos rfl, if_neg h]
theorem p_rungsOf (hn : n ≤ 24) {j : Nat} (hj : j < 2 ^ 31) : F_X3_rungsOf fl (nI n) ts (nI j) = some (if j < n then ts j else 0) := by
  unfold F_X3_rungsOf
  rw [p_holds hn hj, bn_e]
  by_cases h : j < n
  · rw [if_pos h, if_neg (by decide), gi_e (vp_in_nI (by omega) (by omega)), nI_clamp hj, if_pos h]
  · rw [if_neg h, if_pos rfl, if_neg h]
/-- has the folder at j a rung on the level -/
def rg (n : Nat) (ts : Nat → Int32) (lev : Int32) (j : Nat) : Bool := decide (j < n ∧ lev < ts j)
theorem p_hasRung (hn : n ≤ 24) {j : Nat} (hj : j < 2 ^ 31) : F_X3_hasRung fl (nI n) ts (nI j) lev = some (if rg n ts lev j then 1 else 0) := by
  unfold F_X3_hasRung rg
  rw [p_holds hn hj, bn_e]
  by_cases h : j < n
  · rw [if_pos h, if_neg (by decide), gi_e (vp_in_nI (by omega) (by omega)), nI_clamp hj]
    by_cases h2 : lev < ts j
    · rw [if_neg (fun q => (le_iff_nlt _ _).mp q h2), if_pos (decide_eq_true ⟨h, h2⟩)]
    · rw [if_pos ((nlt_iff_le _ _).mp h2), if_neg (fun q => h2 (of_decide_eq_true q).2)]
  · rw [if_neg h, if_pos rfl, if_neg (fun q => h (of_decide_eq_true q).1)]
theorem p_hasRungH : F_X3_hasRung fl (nI n) ts (-1) lev = some 0 := by
  unfold F_X3_hasRung
  rw [p_holdsH, bn_e, if_pos rfl]
theorem p_hasLowerKey (hn : n ≤ 24) {j : Nat} (hj : j < 2 ^ 31) : F_X3_hasLowerKey fl (nI n) ks (nI j) key = some (if j < n ∧ ks j < key then 1 else 0) := by
  unfold F_X3_hasLowerKey
  rw [p_holds hn hj, bn_e]
  by_cases h : j < n
  · rw [if_pos h, if_neg (by decide), gi_e (vp_in_nI (by omega) (by omega)), nI_clamp hj]
    by_cases h2 : ks j < key
    · rw [if_neg (fun q => (le_iff_nlt _ _).mp q h2), if_pos ⟨h, h2⟩]
    · rw [if_pos ((nlt_iff_le _ _).mp h2), if_neg (fun q => h2 q.2)]
  · rw [if_neg h, if_pos rfl, if_neg (fun q => h q.1)]
/-- how many folders have lower keys -/
def lw (n : Nat) (ks : Nat → Int32) (key : Int32) : Nat := fi (fun i => decide (key ≤ ks i)) n 0
theorem p_lowerL (hn : n ≤ 24) : ∀ (d j m : Nat), j + d = n → d < m → F_X3_lowerKeys_2 fl (nI n) ks m key (nI j) = some (nI (fi (fun i => decide (key ≤ ks i)) d j)) := by
  intro d
  induction d with
  | zero =>
    intro j m hj hm
    obtain ⟨m, rfl⟩ : ∃ q, m = q + 1 := ⟨m - 1, by omega⟩
    rw [F_X3_lowerKeys_2, if_pos ((nI_leI (by omega) (by omega)).mpr (by omega))]; rfl
  | succ d ih =>
    intro j m hj hm
    obtain ⟨m, rfl⟩ : ∃ q, m = q + 1 := ⟨m - 1, by omega⟩
    rw [F_X3_lowerKeys_2, if_neg (fun q => by have := (nI_leI (by omega) (by omega)).mp q; omega), l24, if_neg (fun q => by have := (nI_leI (by omega) (by omega)).mp q; omega), gi_e (vp_in_nI (by omega) (by omega)), nI_clamp (by omega), fi]
    by_cases h : key ≤ ks j
    · rw [if_pos h, if_pos (decide_eq_true h)]
    · rw [if_neg h, if_neg (fun q => h (of_decide_eq_true q)), nI_1, ih (j + 1) m (by omega) (by omega)]
theorem p_lowerKeys (hn : n ≤ 24) (hf : 2000 ≤ fl) : F_X3_lowerKeys fl (nI n) ks key = some (nI (lw n ks key)) := p_lowerL hn n 0 fl (by omega) (by omega)
theorem lw_le : lw n ks key ≤ n := by have := (fi_le (fun i => decide (key ≤ ks i)) n 0).2; unfold lw; omega
/-- the place of a key -/
def pw (n : Nat) (ks : Nat → Int32) (key : Int32) : Option Nat := if lw n ks key < n ∧ ks (lw n ks key) = key then some (lw n ks key) else none
theorem p_placeWith (hn : n ≤ 24) (hf : 2000 ≤ fl) : F_X3_placeWith fl (nI n) ks key = some (match pw n ks key with | some j => nI j | none => -1) := by
  unfold F_X3_placeWith pw
  have h1 := lw_le (n := n) (ks := ks) (key := key)
  rw [p_lowerKeys hn hf, bn_e, p_holds hn (by omega), bn_e]
  by_cases h : lw n ks key < n
  · rw [if_pos h, if_neg (by decide), gi_e (vp_in_nI (by omega) (by omega)), nI_clamp (by omega)]
    by_cases h2 : ks (lw n ks key) = key
    · rw [if_pos h2, if_pos ⟨h, h2⟩]
    · rw [if_neg h2, if_neg (fun q => h2 q.2)]
  · rw [if_neg h, if_pos rfl, if_neg (fun q => h q.1)]
/-- the next folder on a level from j on -/
def nx (n : Nat) (ts : Nat → Int32) (lev : Int32) (j : Nat) : Nat := fi (rg n ts lev) (n - j) j
theorem p_nextL (hn : n ≤ 24) {x : Int32} : ∀ (d j m : Nat), j + d = n → d < m → F_X3_nextOn_4 fl (nI n) ts m lev x (nI j) = some (nI (fi (rg n ts lev) d j)) := by
  intro d
  induction d with
  | zero =>
    intro j m hj hm
    obtain ⟨m, rfl⟩ : ∃ q, m = q + 1 := ⟨m - 1, by omega⟩
    rw [F_X3_nextOn_4, if_pos ((nI_leI (by omega) (by omega)).mpr (by omega))]; rfl
  | succ d ih =>
    intro j m hj hm
    obtain ⟨m, rfl⟩ : ∃ q, m = q + 1 := ⟨m - 1, by omega⟩
    rw [F_X3_nextOn_4, if_neg (fun q => by have := (nI_leI (by omega) (by omega)).mp q; omega), p_hasRung hn (by omega), bn_e, fi]
    by_cases h : rg n ts lev j = true
    · rw [if_pos h, if_neg (by decide), if_pos h]
    · rw [if_neg h, if_pos rfl, if_neg h, nI_1, ih (j + 1) m (by omega) (by omega)]
theorem p_nextOn (hn : n ≤ 24) (hf : 2000 ≤ fl) {P : Int32} {q : Nat} (hP : P + 1 = nI q) (hq : q ≤ n) : F_X3_nextOn fl (nI n) ts lev P = some (nI (nx n ts lev q)) := by
  unfold F_X3_nextOn
  rw [hP]
  exact p_nextL hn (n - q) q fl (by omega) (by omega)
end LADDER
