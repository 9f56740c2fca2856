/-! the reference's row opened and closed -/
variable {fl n : Nat} {ks ws ts a : Nat → Int32} {key lev hid cn ct' ch : Int32}
theorem ins_p {f : Nat → Int32} {p n : Nat} {x : Int32} : ins f p n x p = x := pk_us
theorem ins_lo {f : Nat → Int32} {p n j : Nat} {x : Int32} (h : j < p) : ins f p n x j = f j := by
  rw [ins, pk_un (by omega)]; exact if_neg (by omega)
theorem ins_hi {f : Nat → Int32} {p n j : Nat} {x : Int32} (h : p < j) (h2 : j ≤ n) : ins f p n x j = f (j - 1) := by
  rw [ins, pk_un (by omega)]; exact if_pos ⟨h, h2⟩
theorem dl_lo {f : Nat → Int32} {p n j : Nat} (h : j < p) : dl f p n j = f j := if_neg (by omega)
theorem dl_hi {f : Nat → Int32} {p n j : Nat} (h : p ≤ j) (h2 : j < n) : dl f p n j = f (j + 1) := if_pos ⟨h, h2⟩
/-- numbers behind q + 3 moved up by three -/
def shA (a : Nat → Int32) (q n : Nat) : Nat → Int32 := fun i => if q + 3 < i ∧ i ≤ 7 + 3 * n then a (i - 3) else a i
theorem shA_n (a : Nat → Int32) (n : Nat) : shA a (4 + 3 * n) n = a := by
  funext i; exact if_neg (by omega)
theorem shA_up (a : Nat → Int32) {q n : Nat} (h : q + 1 ≤ 4 + 3 * n) : upd (shA a (q + 1) n) (q + 1 + 3) (shA a (q + 1) n (q + 1)) = shA a q n := by
  funext i
  by_cases e : i = q + 1 + 3
  · subst e
    rw [pk_us]
    show (if _ then _ else _) = (if _ then _ else _)
    rw [if_neg (by omega), if_pos (by omega)]; rfl
  · rw [pk_un e]
    show (if _ then _ else _) = (if _ then _ else _)
    by_cases c : q + 1 + 3 < i ∧ i ≤ 7 + 3 * n
    · rw [if_pos c, if_pos (by omega)]
    · rw [if_neg c, if_neg (by omega)]
/-- the row with a folder let in at place p -/
def inA (a : Nat → Int32) (p n : Nat) (k w t : Int32) : Nat → Int32 := upd (upd (upd (upd (shA a (4 + 3 * p) n) 0 (nI (n + 1))) (5 + 3 * p) k) (6 + 3 * p) w) (7 + 3 * p) t
theorem inA_MR (h : MR n ks ws ts cn ct' ch hid a) {p : Nat} (hp : p ≤ n) {k w t : Int32} : MR (n + 1) (ins ks p n k) (ins ws p n w) (ins ts p n t) cn ct' ch hid (inA a p n k w t) := by
  have lo : ∀ i, 0 < i → i < 5 → inA a p n k w t i = a i := fun i h1 h2 => by
    rw [inA, pk_un (by omega), pk_un (by omega), pk_un (by omega), pk_un (by omega)]; exact if_neg (by omega)
  refine ⟨by rw [inA, pk_un (by omega), pk_un (by omega), pk_un (by omega), pk_us], by rw [lo 1 (by omega) (by omega)]; exact h.2.1, by rw [lo 2 (by omega) (by omega)]; exact h.2.2.1, by rw [lo 3 (by omega) (by omega)]; exact h.2.2.2.1, by rw [lo 4 (by omega) (by omega)]; exact h.2.2.2.2.1, fun j hj => ?_⟩
  rcases Nat.lt_trichotomy j p with c | c | c
  · rw [ins_lo c, ins_lo c, ins_lo c]
    have g : ∀ i, 0 < i → i < 5 + 3 * p → inA a p n k w t i = a i := fun i h1 h2 => by
      rw [inA, pk_un (by omega), pk_un (by omega), pk_un (by omega), pk_un (by omega)]; exact if_neg (by omega)
    rw [g _ (by omega) (by omega), g _ (by omega) (by omega), g _ (by omega) (by omega)]
    exact h.2.2.2.2.2 j (by omega)
  · subst c
    rw [ins_p, ins_p, ins_p]
    exact ⟨by rw [inA, pk_un (by omega), pk_un (by omega), pk_us], by rw [inA, pk_un (by omega), pk_us], by rw [inA, pk_us]⟩
  · rw [ins_hi c (by omega), ins_hi c (by omega), ins_hi c (by omega)]
    have g : ∀ i, 7 + 3 * p < i → i ≤ 7 + 3 * n → inA a p n k w t i = a (i - 3) := fun i h1 h2 => by
      rw [inA, pk_un (by omega), pk_un (by omega), pk_un (by omega), pk_un (by omega)]; exact if_pos (by omega)
    rw [g _ (by omega) (by omega), g _ (by omega) (by omega), g _ (by omega) (by omega), show 5 + 3 * j - 3 = 5 + 3 * (j - 1) by omega, show 6 + 3 * j - 3 = 6 + 3 * (j - 1) by omega, show 7 + 3 * j - 3 = 7 + 3 * (j - 1) by omega]
    exact h.2.2.2.2.2 (j - 1) (by omega)
theorem gx {α : Type} {k : Nat} {x : Option α} (h : k < 77) : gi (nI k) 77 x = x := g_lit h (by decide)
theorem q_insL (hn : n < 24) (h0 : a 0 = nI n) {p : Nat} {rs dt ix an k w x3 x4 r : Int32} (hp : p ≤ n) : ∀ (d q m : Nat), q = 4 + 3 * p + d → q ≤ 4 + 3 * n → d < m →
    F_X8_files_125 fl m rs dt ix an (shA a q n) k w x3 x4 r (nI p) (nI q) = some (1, rs, dt, ix, (if x4 = 0 then r else nI p), inA a p n k w r) := by
  intro d
  induction d with
  | zero =>
    intro q m hq hqn hm
    obtain ⟨m, rfl⟩ : ∃ q, m = q + 1 := ⟨m - 1, by omega⟩
    obtain rfl : q = 4 + 3 * p := by omega
    have e0 : shA a (4 + 3 * p) n 0 = nI n := by rw [← h0]; exact if_neg (by omega)
    rw [F_X8_files_125, ix2, ix1, ix0, if_pos ((nI_ltI (by omega) (by omega)).mpr (by omega)), gl0, gl0, gx (by omega), gx (by omega), gx (by omega), c0, nI_clamp (by omega), nI_clamp (by omega), nI_clamp (by omega), e0, nI_1]
    unfold F_X8_does
    by_cases c : x4 = 0
    · rw [if_pos c, if_pos c, bn2, bn_e, gd_e (show okB 1 = true by decide)]; rfl
    · rw [if_neg c, if_neg c, bn2, bn_e, gd_e (show okB 1 = true by decide)]; rfl
  | succ d ih =>
    intro q m hq hqn hm
    obtain ⟨m, rfl⟩ : ∃ q, m = q + 1 := ⟨m - 1, by omega⟩
    obtain ⟨q, rfl⟩ : ∃ z, q = z + 1 := ⟨q - 1, by omega⟩
    rw [F_X8_files_125, ix0, if_neg (fun z => by have := (nI_ltI (by omega) (by omega)).mp z; omega), l3, nI_add, gx (by omega), gx (by omega), nI_clamp (by omega), nI_clamp (by omega), nI_m1, shA_up a (by omega)]
    exact ih q m (by omega) (by omega) (by omega)
theorem q_ins (hn : n < 24) (hf : 2000 ≤ fl) (h : MR n ks ws ts cn ct' ch hid a) {rs dt ix an k w x3 x4 r : Int32} :
    F_X8_files_125 fl fl rs dt ix an a k w x3 x4 r (nI (lw n ks k)) (((5 : Int32) + ((3 : Int32) * (a (0 : Int32).toNatClampNeg))) - (1 : Int32)) = some (1, rs, dt, ix, (if x4 = 0 then r else nI (lw n ks k)), inA a (lw n ks k) n k w r) := by
  have hl := lw_le (n := n) (ks := ks) (key := k)
  have e := q_insL (fl := fl) (rs := rs) (dt := dt) (ix := ix) (an := an) (k := k) (w := w) (x3 := x3) (x4 := x4) (r := r) hn h.1 hl (3 * (n - lw n ks k)) (4 + 3 * n) fl (by omega) (Nat.le_refl _) (by omega)
  rw [shA_n] at e
  rw [c0, h.1, ix0, show nI (5 + 3 * n) - 1 = nI (4 + 3 * n) by rw [show (1 : Int32) = nI 1 from rfl, pk_sub (by omega)]; congr 1; omega]
  exact e
/-- numbers from 5 + 3 p up to q moved down by three -/
def dlA (a : Nat → Int32) (p q : Nat) : Nat → Int32 := fun i => if 5 + 3 * p ≤ i ∧ i < q then a (i + 3) else a i
theorem dlA_p (a : Nat → Int32) (p : Nat) : dlA a p (5 + 3 * p) = a := by
  funext i; exact if_neg (by omega)
theorem dlA_up (a : Nat → Int32) {p q : Nat} (h : 5 + 3 * p ≤ q) : upd (dlA a p q) q (dlA a p q (q + 3)) = dlA a p (q + 1) := by
  funext i
  by_cases e : i = q
  · subst e
    rw [pk_us]
    show (if _ then _ else _) = (if _ then _ else _)
    rw [if_neg (by omega), if_pos (by omega)]
  · rw [pk_un e]
    show (if _ then _ else _) = (if _ then _ else _)
    by_cases c : 5 + 3 * p ≤ i ∧ i < q
    · rw [if_pos c, if_pos (by omega)]
    · rw [if_neg c, if_neg (by omega)]
theorem q_delL (hn : n < 24) (h0 : a 0 = nI n) {p : Nat} {rs dt ix an x1 x2 : Int32} : ∀ (d q m : Nat), q + d = 5 + 3 * n → 5 + 3 * p ≤ q → d < m →
    F_X8_drops_32 fl m rs dt ix an (dlA a p q) x1 x2 (nI q) = some (1, rs, dt, ix, nI n, dlA a p (5 + 3 * n)) := by
  intro d
  induction d with
  | zero =>
    intro q m hq hqn hm
    obtain ⟨m, rfl⟩ : ∃ q, m = q + 1 := ⟨m - 1, by omega⟩
    obtain rfl : q = 5 + 3 * n := by omega
    have e0 : dlA a p (5 + 3 * n) 0 = nI n := by rw [← h0]; exact if_neg (by omega)
    rw [F_X8_drops_32, gl0, gl0, c0, e0, ix0, if_pos ((nI_leI (by omega) (by omega)).mpr (by omega))]
    unfold F_X8_does
    rw [bn2, bn_e, gd_e (show okB 1 = true by decide)]
  | succ d ih =>
    intro q m hq hqn hm
    obtain ⟨m, rfl⟩ : ∃ q, m = q + 1 := ⟨m - 1, by omega⟩
    have e0 : dlA a p q 0 = nI n := by rw [← h0]; exact if_neg (by omega)
    rw [F_X8_drops_32, gl0, c0, e0, ix0, if_neg (fun z => by have := (nI_leI (by omega) (by omega)).mp z; omega), l3, nI_add, gx (by omega), gx (by omega), nI_clamp (by omega), nI_clamp (by omega), nI_1, dlA_up a (by omega)]
    exact ih (q + 1) m (by omega) (by omega) (by omega)
/-- the row without the folder at place p -/
def ouA (a : Nat → Int32) (p n : Nat) : Nat → Int32 := dlA (upd a 0 (nI n)) p (5 + 3 * n)
theorem ouA_MR (h : MR (n + 1) ks ws ts cn ct' ch hid a) {p : Nat} : MR n (dl ks p n) (dl ws p n) (dl ts p n) cn ct' ch hid (ouA a p n) := by
  have lo : ∀ i, 0 < i → i < 5 + 3 * p → ouA a p n i = a i := fun i h1 h2 => by
    rw [ouA, dlA, if_neg (by omega), pk_un (by omega)]
  refine ⟨by rw [ouA, dlA, if_neg (by omega), pk_us], by rw [lo 1 (by omega) (by omega)]; exact h.2.1, by rw [lo 2 (by omega) (by omega)]; exact h.2.2.1, by rw [lo 3 (by omega) (by omega)]; exact h.2.2.2.1, by rw [lo 4 (by omega) (by omega)]; exact h.2.2.2.2.1, fun j hj => ?_⟩
  by_cases c : j < p
  · rw [dl_lo c, dl_lo c, dl_lo c, lo _ (by omega) (by omega), lo _ (by omega) (by omega), lo _ (by omega) (by omega)]
    exact h.2.2.2.2.2 j (by omega)
  · have g : ∀ i, 5 + 3 * p ≤ i → i < 5 + 3 * n → ouA a p n i = a (i + 3) := fun i h1 h2 => by
      rw [ouA, dlA, if_pos (by omega), pk_un (by omega)]
    rw [dl_hi (by omega) hj, dl_hi (by omega) hj, dl_hi (by omega) hj, g _ (by omega) (by omega), g _ (by omega) (by omega), g _ (by omega) (by omega)]
    exact h.2.2.2.2.2 (j + 1) (by omega)
theorem q_del (hn : n < 24) (hf : 2000 ≤ fl) (h : MR (n + 1) ks ws ts cn ct' ch hid a) {p : Nat} (hp : p ≤ n) {rs dt ix an x1 x2 : Int32} :
    F_X8_drops_32 fl fl rs dt ix an (upd a (0 : Int32).toNatClampNeg ((a (0 : Int32).toNatClampNeg) - (1 : Int32))) x1 x2 ((5 : Int32) + ((3 : Int32) * nI p)) = some (1, rs, dt, ix, nI n, ouA a p n) := by
  have e := q_delL (fl := fl) (a := upd a 0 (nI n)) (rs := rs) (dt := dt) (ix := ix) (an := an) (x1 := x1) (x2 := x2) hn pk_us (p := p) (3 * (n - p)) (5 + 3 * p) fl (by omega) (Nat.le_refl _) (by omega)
  rw [dlA_p] at e
  rw [c0, h.1, ix0, show nI (n + 1) - 1 = nI n from pk_sub (b := 1) (by omega)]
  exact e
