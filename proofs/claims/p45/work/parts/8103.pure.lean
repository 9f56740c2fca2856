section LADDER2
variable {fl n : Nat} {ks ws ts : Nat → Int32} {key lev hid : Int32}
theorem rg_out {j : Nat} (h : n ≤ j) : rg n ts lev j = false := decide_eq_false (fun q => by omega)
/-- the folder before on a level: of the places below j the last with a rung, and 1; 0 without one -/
def pv (p : Nat → Bool) : Nat → Nat
  | 0 => 0
  | j + 1 => if p j then j + 1 else pv p j
theorem pv_le (p : Nat → Bool) : ∀ j, pv p j ≤ j := by
  intro j
  induction j with
  | zero => exact Nat.le_refl _
  | succ j ih => rw [pv]; split <;> omega
theorem pv_no (p : Nat → Bool) : ∀ j i, pv p j ≤ i → i < j → p i = false := by
  intro j
  induction j with
  | zero => intro i _ h; omega
  | succ j ih =>
    intro i h1 h2
    rw [pv] at h1
    split at h1
    · omega
    · rename_i hc
      by_cases e : i = j
      · subst e; exact Bool.eq_false_iff.mpr hc
      · exact ih i h1 (by omega)
theorem pv_yes (p : Nat → Bool) : ∀ j k, pv p j = k + 1 → p k = true := by
  intro j
  induction j with
  | zero => intro k h; rw [pv] at h; omega
  | succ j ih =>
    intro k h
    rw [pv] at h
    split at h
    · rename_i hc; have e : j = k := by omega
      rw [← e]; exact hc
    · exact ih k h
theorem nI_m1 (j : Nat) : nI (j + 1) + (-1) = nI j := pk_m1 j
theorem p_prevL (hn : n ≤ 24) {x : Int32} : ∀ (j m : Nat), j ≤ 24 → j < m → F_X3_previousOn_4 fl (nI n) ts m lev x (nI j + (-1)) = some (nI (pv (rg n ts lev) j) + (-1)) := by
  intro j
  induction j with
  | zero =>
    intro m hj hm
    obtain ⟨m, rfl⟩ : ∃ q, m = q + 1 := ⟨m - 1, by omega⟩
    rw [F_X3_previousOn_4, if_pos (by decide)]; rfl
  | succ j ih =>
    intro m hj hm
    obtain ⟨m, rfl⟩ : ∃ q, m = q + 1 := ⟨m - 1, by omega⟩
    rw [F_X3_previousOn_4, nI_m1, if_neg (fun q => absurd (show ¬ nI j < (-1 : Int32) + 1 from nI_pos (by omega)) (fun z => z (by
      rw [Int32.le_iff_toInt_le, nI_toInt (by omega)] at q
      have e : ((-1 : Int32)).toInt = -1 := by decide
      omega))), p_hasRung hn (by omega), bn_e, pv]
    by_cases h : rg n ts lev j = true
    · rw [if_pos h, if_neg (by decide), if_pos h, nI_m1]
    · rw [if_neg h, if_pos rfl, if_neg h, ih m (by omega) (by omega)]
theorem p_previousOn (hn : n ≤ 24) (hf : 2000 ≤ fl) {j : Nat} (hj : j ≤ 24) : F_X3_previousOn fl (nI n) ts lev (nI j) = some (nI (pv (rg n ts lev) j) + (-1)) := by
  unfold F_X3_previousOn
  rw [show nI j - (1 : Int32) = nI j + (-1) from Int32.sub_eq_add_neg ..]
  exact p_prevL hn j fl hj (by omega)
/-- how many of the places below d -/
def ct (p : Nat → Bool) : Nat → Nat
  | 0 => 0
  | d + 1 => ct p d + (if p d then 1 else 0)
theorem ct_le (p : Nat → Bool) : ∀ d, ct p d ≤ d := by
  intro d
  induction d with
  | zero => exact Nat.le_refl _
  | succ d ih => rw [ct]; split <;> omega
theorem p_foldL (hn : n ≤ 24) : ∀ (d j m : Nat), j + d = n → d < m → F_X3_foldersOn_4 fl (nI n) ts m lev (nI (ct (rg n ts lev) j)) (nI j) = some (nI (ct (rg n ts lev) n)) := by
  intro d
  induction d with
  | zero =>
    intro j m hj hm
    obtain ⟨m, rfl⟩ : ∃ q, m = q + 1 := ⟨m - 1, by omega⟩
    obtain rfl : j = n := by omega
    rw [F_X3_foldersOn_4, if_pos ((nI_leI (by omega) (by omega)).mpr (by omega))]
  | succ d ih =>
    intro j m hj hm
    obtain ⟨m, rfl⟩ : ∃ q, m = q + 1 := ⟨m - 1, by omega⟩
    rw [F_X3_foldersOn_4, if_neg (fun q => by have := (nI_leI (by omega) (by omega)).mp q; omega), p_hasRung hn (by omega), bn_e]
    have h := ih (j + 1) m (by omega) (by omega)
    rw [ct] at h
    by_cases h2 : rg n ts lev j = true
    · rw [if_pos h2, if_neg (by decide), nI_1, nI_1]; rw [if_pos h2] at h; exact h
    · rw [if_neg h2, if_pos rfl, nI_1]; rw [if_neg h2] at h; exact h
theorem p_foldersOn (hn : n ≤ 24) (hf : 2000 ≤ fl) : F_X3_foldersOn fl (nI n) ts lev = some (nI (ct (rg n ts lev) n)) := p_foldL hn n 0 fl (by omega) (by omega)
/-- towers have 1 to 5 rungs -/
def tw (n : Nat) (ts : Nat → Int32) : Prop := ∀ j, j < n → ∃ t, 1 ≤ t ∧ t ≤ 5 ∧ ts j = nI t
/-- the most rungs of a tower -/
def mx (n : Nat) (ts : Nat → Int32) : Nat → Nat
  | 0 => 0
  | d + 1 => max (mx n ts d) (ts d).toNatClampNeg
theorem p_highL (hn : n ≤ 24) (ht : tw n ts) : ∀ (d j m : Nat), j + d = n → d < m → mx n ts j ≤ 5 → F_X3_highestLevel_4 fl (nI n) ts m (nI (mx n ts j)) (nI j) = some (nI (mx n ts n) - 1) ∧ mx n ts n ≤ 5 := by
  intro d
  induction d with
  | zero =>
    intro j m hj hm h5
    obtain ⟨m, rfl⟩ : ∃ q, m = q + 1 := ⟨m - 1, by omega⟩
    obtain rfl : j = n := by omega
    rw [F_X3_highestLevel_4, if_pos ((nI_leI (by omega) (by omega)).mpr (by omega))]; exact ⟨rfl, h5⟩
  | succ d ih =>
    intro j m hj hm h5
    obtain ⟨m, rfl⟩ : ∃ q, m = q + 1 := ⟨m - 1, by omega⟩
    rw [F_X3_highestLevel_4, if_neg (fun q => by have := (nI_leI (by omega) (by omega)).mp q; omega), p_rungsOf hn (by omega), bn_e, if_pos (show j < n by omega), nI_1]
    obtain ⟨t, h1, h2, h3⟩ := ht j (by omega)
    have e : mx n ts (j + 1) = max (mx n ts j) t := by rw [mx, h3, nI_clamp (by omega)]
    have h := ih (j + 1) m (by omega) (by omega) (by rw [e]; omega)
    rw [e] at h
    rw [h3]
    by_cases hc : mx n ts j < t
    · rw [if_pos (nI_lt hc (by omega))]; rw [Nat.max_eq_right (by omega)] at h; exact h
    · rw [if_neg (fun q => hc ((nI_ltI (by omega) (by omega)).mp q))]; rw [Nat.max_eq_left (by omega)] at h; exact h
theorem p_highestLevel (hn : n ≤ 24) (hf : 2000 ≤ fl) (ht : tw n ts) : F_X3_highestLevel fl (nI n) ts = some (nI (mx n ts n) - 1) ∧ mx n ts n ≤ 5 := p_highL hn ht n 0 fl (by omega) (by omega) (Nat.zero_le _)
theorem mx_ge {d j : Nat} (h : j < d) : (ts j).toNatClampNeg ≤ mx n ts d := by
  induction d with
  | zero => omega
  | succ d ih =>
    rw [mx]
    by_cases e : j = d
    · subst e; omega
    · have := ih (by omega); omega
theorem mx_at (d : Nat) (h : 0 < mx n ts d) : ∃ j, j < d ∧ (ts j).toNatClampNeg = mx n ts d := by
  induction d with
  | zero => rw [mx] at h; omega
  | succ d ih =>
    rw [mx] at h ⊢
    by_cases e : mx n ts d ≤ (ts d).toNatClampNeg
    · exact ⟨d, by omega, by omega⟩
    · obtain ⟨j, h1, h2⟩ := ih (by omega)
      exact ⟨j, by omega, by omega⟩
/-- a level is forgotten -/
def hb (hid lev : Int32) : Bool := decide (((hid >>> (lev &&& 31)) &&& (1 : Int32)) = (1 : Int32))
theorem p_isHidden : F_X3_isHidden fl hid lev = some (if hb hid lev then 1 else 0) := by
  unfold F_X3_isHidden hb
  by_cases h : ((hid >>> (lev &&& 31)) &&& (1 : Int32)) = (1 : Int32)
  · rw [if_pos h, if_pos (decide_eq_true h)]
  · rw [if_neg h, if_neg (fun q => h (of_decide_eq_true q))]
/-- the highest level up to L that a search uses -/
def us (hid : Int32) : Nat → Nat
  | 0 => 0
  | L + 1 => if hb hid (nI (L + 1)) then us hid L else L + 1
theorem us_le (L : Nat) : us hid L ≤ L := by
  induction L with
  | zero => exact Nat.le_refl _
  | succ L ih => rw [us]; split <;> omega
theorem p_usedL {x : Int32} : ∀ (L m : Nat), L ≤ 5 → L < m → F_X3_usedUpTo_2 fl hid m x (nI L) = some (nI (us hid L)) := by
  intro L
  induction L with
  | zero =>
    intro m hL hm
    obtain ⟨m, rfl⟩ : ∃ q, m = q + 1 := ⟨m - 1, by omega⟩
    rw [F_X3_usedUpTo_2, if_pos (by decide)]; rfl
  | succ L ih =>
    intro m hL hm
    obtain ⟨m, rfl⟩ : ∃ q, m = q + 1 := ⟨m - 1, by omega⟩
    rw [F_X3_usedUpTo_2, if_neg (nI_nle (by omega) (by omega)), p_isHidden, bn_e, us]
    by_cases h : hb hid (nI (L + 1)) = true
    · rw [if_pos h, if_neg (by decide), if_pos h, nI_m1, ih m (by omega) (by omega)]
    · rw [if_neg h, if_pos rfl, if_neg h, if_neg (nI_pos (by omega))]
theorem p_usedUpTo (hf : 2000 ≤ fl) {L : Nat} (hL : L ≤ 5) : F_X3_usedUpTo fl hid (nI L) = some (nI (us hid L)) := p_usedL L fl hL (by omega)
theorem p_usedUpToM (hf : 2000 ≤ fl) : F_X3_usedUpTo fl hid (-1) = some 0 := by
  unfold F_X3_usedUpTo
  obtain ⟨m, rfl⟩ : ∃ q, fl = q + 1 := ⟨fl - 1, by omega⟩
  rw [F_X3_usedUpTo_2, if_pos (by decide)]; rfl
/-- the level where a search begins -/
def bg (n : Nat) (ts : Nat → Int32) (hid : Int32) : Nat := us hid (mx n ts n - 1)
theorem p_beginning (hn : n ≤ 24) (hf : 2000 ≤ fl) (ht : tw n ts) : F_X3_beginning fl (nI n) hid ts = some (nI (bg n ts hid)) := by
  unfold F_X3_beginning bg
  obtain ⟨h1, h2⟩ := p_highestLevel (fl := fl) hn hf ht
  rw [h1, bn_e]
  by_cases h : mx n ts n = 0
  · rw [h, show nI 0 - 1 = (-1 : Int32) from rfl, p_usedUpToM hf, bn_e]; rfl
  · rw [show nI (mx n ts n) - 1 = nI (mx n ts n - 1) from pk_sub (b := 1) (by omega), p_usedUpTo hf (by omega), bn_e]
/-- the next higher level that a search uses, or 5 -/
def ua (hid : Int32) : Nat → Nat → Nat
  | 0, L => L
  | d + 1, L => if hb hid (nI L) then ua hid d (L + 1) else L
theorem p_aboveL {x : Int32} : ∀ (d L m : Nat), L + d = 5 → d < m → F_X3_usedAbove_4 fl hid m x (nI L) = some (nI (ua hid d L)) := by
  intro d
  induction d with
  | zero =>
    intro L m hL hm
    obtain ⟨m, rfl⟩ : ∃ q, m = q + 1 := ⟨m - 1, by omega⟩
    rw [F_X3_usedAbove_4, l5, if_pos ((nI_leI (by omega) (by omega)).mpr (by omega))]; rfl
  | succ d ih =>
    intro L m hL hm
    obtain ⟨m, rfl⟩ : ∃ q, m = q + 1 := ⟨m - 1, by omega⟩
    rw [F_X3_usedAbove_4, l5, if_neg (fun q => by have := (nI_leI (by omega) (by omega)).mp q; omega), p_isHidden, bn_e, ua]
    by_cases h : hb hid (nI L) = true
    · rw [if_pos h, if_neg (by decide), if_pos h, nI_1, ih (L + 1) m (by omega) (by omega)]
    · rw [if_neg h, if_pos rfl, if_neg h]
theorem p_usedAbove (hf : 2000 ≤ fl) {L : Nat} (hL : L ≤ 4) : F_X3_usedAbove fl hid (nI L) = some (nI (ua hid (4 - L) (L + 1))) := by
  unfold F_X3_usedAbove
  rw [nI_1]
  exact p_aboveL (4 - L) (L + 1) fl (by omega) (by omega)
end LADDER2
