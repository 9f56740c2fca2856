/-! rows opened and closed -/
variable {fl n : Nat} {ks ws ts a : Nat → Int32} {key lev hid cn ct' ch : Int32}
theorem upd_s {f : Nat → Int32} {k : Nat} {x : Int32} {i : Nat} (h : i = k) : upd f k x i = x := by subst h; exact pk_us
theorem p_put (hn : n ≤ 24) {j : Nat} (hj : j < n) {k w t : Int32} : F_X3_put fl (nI n) ks ws ts (nI j) k w t = some (upd ks j k, upd ws j w, upd ts j t) := by
  unfold F_X3_put
  rw [p_holds hn (by omega), bn_e, if_pos hj, if_neg (by decide), g_lit (by omega) (by decide), g_lit (by omega) (by decide), g_lit (by omega) (by decide), nI_clamp (by omega)]
/-- the rows above place j and up to place n moved up by one -/
def sh (f : Nat → Int32) (j n : Nat) : Nat → Int32 := fun i => if j < i ∧ i ≤ n then f (i - 1) else f i
/-- a row opened at place p -/
def ins (f : Nat → Int32) (p n : Nat) (x : Int32) : Nat → Int32 := upd (sh f p n) p x
theorem sh_n (f : Nat → Int32) (n : Nat) : sh f n n = f := by
  funext i; exact if_neg (by omega)
theorem sh_up (f : Nat → Int32) {j n : Nat} (h : j < n) : upd (sh f (j + 1) n) (j + 1) (sh f (j + 1) n j) = sh f j n := by
  funext i
  by_cases e : i = j + 1
  · subst e
    rw [pk_us]
    show (if _ then _ else _) = (if _ then _ else _)
    rw [if_neg (by omega), if_pos (by omega)]; rfl
  · rw [pk_un e]
    show (if _ then _ else _) = (if _ then _ else _)
    by_cases c : j + 1 < i ∧ i ≤ n
    · rw [if_pos c, if_pos (by omega)]
    · rw [if_neg c, if_neg (by omega)]
theorem p_insL (hn : n < 24) {p : Nat} {k w t : Int32} : ∀ (d j m : Nat), j = p + d → j ≤ n → d < m → F_X3_insert_33 fl m (nI (n + 1)) (sh ks j n) (sh ws j n) (sh ts j n) k w t (nI p) (nI j) = some (nI (n + 1), ins ks p n k, ins ws p n w, ins ts p n t) := by
  intro d
  induction d with
  | zero =>
    intro j m hj hjn hm
    obtain ⟨m, rfl⟩ : ∃ q, m = q + 1 := ⟨m - 1, by omega⟩
    obtain rfl : j = p := by omega
    rw [F_X3_insert_33, if_pos ((nI_leI (by omega) (by omega)).mpr (by omega)), p_put (by omega) (by omega)]; rfl
  | succ d ih =>
    intro j m hj hjn hm
    obtain ⟨m, rfl⟩ : ∃ q, m = q + 1 := ⟨m - 1, by omega⟩
    obtain ⟨j, rfl⟩ : ∃ q, j = q + 1 := ⟨j - 1, by omega⟩
    rw [F_X3_insert_33, if_neg (fun q => by have := (nI_leI (by omega) (by omega)).mp q; omega), show nI (j + 1) - 1 = nI j from pk_sub (b := 1) (by omega), p_keyOf (by omega) (by omega), bn_e, p_weightOf (by omega) (by omega), bn_e, p_rungsOf (by omega) (by omega), bn_e, if_pos (by omega), if_pos (by omega), if_pos (by omega), p_put (by omega) (by omega)]
    show F_X3_insert_33 fl m (nI (n + 1)) (upd (sh ks (j + 1) n) (j + 1) (sh ks (j + 1) n j)) _ _ k w t (nI p) (nI (j + 1) + (-1)) = _
    rw [sh_up _ (by omega), sh_up _ (by omega), sh_up _ (by omega), nI_m1]
    exact ih j m (by omega) (by omega) (by omega)
theorem p_insert (hn : n < 24) (hf : 2000 ≤ fl) {k w t : Int32} : F_X3_insert fl (nI n) ks ws ts k w t = some (nI (n + 1), ins ks (lw n ks k) n k, ins ws (lw n ks k) n w, ins ts (lw n ks k) n t) := by
  have hl := lw_le (n := n) (ks := ks) (key := k)
  have h := p_insL (fl := fl) (ks := ks) (ws := ws) (ts := ts) (p := lw n ks k) (k := k) (w := w) (t := t) hn (n - lw n ks k) n fl (by omega) (Nat.le_refl n) (by omega)
  rw [sh_n, sh_n, sh_n] at h
  unfold F_X3_insert F_X3_isFull
  rw [l24, if_pos ((nI_ltI (by omega) (by omega)).mpr hn), bn_e, if_pos rfl, p_lowerKeys (by omega) hf, bn_e, nI_1, show nI (n + 1) - 1 = nI n from pk_sub (b := 1) (by omega)]
  exact h
/-- the rows behind place p and up to place j moved down by one -/
def dl (f : Nat → Int32) (p j : Nat) : Nat → Int32 := fun i => if p ≤ i ∧ i < j then f (i + 1) else f i
theorem dl_p (f : Nat → Int32) (p : Nat) : dl f p p = f := by
  funext i; exact if_neg (by omega)
theorem dl_up (f : Nat → Int32) {p j : Nat} (h : p ≤ j) : upd (dl f p j) j (dl f p j (j + 1)) = dl f p (j + 1) := by
  funext i
  by_cases e : i = j
  · subst e
    rw [pk_us]
    show (if _ then _ else _) = (if _ then _ else _)
    rw [if_neg (by omega), if_pos (by omega)]
  · rw [pk_un e]
    show (if _ then _ else _) = (if _ then _ else _)
    by_cases c : p ≤ i ∧ i < j
    · rw [if_pos c, if_pos (by omega)]
    · rw [if_neg c, if_neg (by omega)]
theorem p_remL (hn : n < 24) {p : Nat} {x : Int32} : ∀ (d j m : Nat), j + d = n → p ≤ j → d < m → F_X3_remove_11 fl m (nI (n + 1)) (dl ks p j) (dl ws p j) (dl ts p j) x (nI j) = some (nI n, dl ks p n, dl ws p n, dl ts p n) := by
  intro d
  induction d with
  | zero =>
    intro j m hj hjn hm
    obtain ⟨m, rfl⟩ : ∃ q, m = q + 1 := ⟨m - 1, by omega⟩
    obtain rfl : j = n := by omega
    rw [F_X3_remove_11, show nI (j + 1) - 1 = nI j from pk_sub (b := 1) (by omega), if_pos ((nI_leI (by omega) (by omega)).mpr (by omega))]
  | succ d ih =>
    intro j m hj hjn hm
    obtain ⟨m, rfl⟩ : ∃ q, m = q + 1 := ⟨m - 1, by omega⟩
    rw [F_X3_remove_11, show nI (n + 1) - 1 = nI n from pk_sub (b := 1) (by omega), if_neg (fun q => by have := (nI_leI (by omega) (by omega)).mp q; omega), nI_1, p_keyOf (by omega) (by omega), bn_e, p_weightOf (by omega) (by omega), bn_e, p_rungsOf (by omega) (by omega), bn_e, if_pos (by omega), if_pos (by omega), if_pos (by omega), p_put (by omega) (by omega)]
    show F_X3_remove_11 fl m (nI (n + 1)) (upd (dl ks p j) j (dl ks p j (j + 1))) _ _ x (nI (j + 1)) = _
    rw [dl_up _ (by omega), dl_up _ (by omega), dl_up _ (by omega)]
    exact ih (j + 1) m (by omega) (by omega) (by omega)
theorem p_remove (hn : n < 24) (hf : 2000 ≤ fl) {p : Nat} (hp : p ≤ n) : F_X3_remove fl (nI (n + 1)) ks ws ts (nI p) = some (nI n, dl ks p n, dl ws p n, dl ts p n) := by
  have h := p_remL (fl := fl) (ks := ks) (ws := ws) (ts := ts) (p := p) (x := nI p) hn (n - p) p fl (by omega) (Nat.le_refl p) (by omega)
  rw [dl_p, dl_p, dl_p] at h
  unfold F_X3_remove
  rw [p_holds (by omega) (by omega), bn_e, if_pos (show p < n + 1 by omega), if_neg (by decide)]
  exact h
