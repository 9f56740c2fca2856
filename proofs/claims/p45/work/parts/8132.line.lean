/-! lines: what both write -/
def lnL (ks ts : Nat → Int32) (lev : Int32) : Nat → Nat → (Nat → Nat) → Nat → (Nat → Nat) × Nat
  | 0, _, t, n => (t, n)
  | d + 1, j, t, n => if lev < ts j then lnL ks ts lev d (j + 1) (sb_cat (sb_cat t n (fun _ => 32)) (n + 1) (sb_dec (ks j).toNatClampNeg)) (n + 1 + sb_dg (ks j).toNatClampNeg) else lnL ks ts lev d (j + 1) t n
def lnH (h : Bool) (t : Nat → Nat) (n : Nat) : (Nat → Nat) × Nat := if h = true then (sb_cat t n (fun _ => 33), n + 1) else (t, n)
def lnT (n : Nat) (ks ts : Nat → Int32) (hid lev : Int32) : (Nat → Nat) × Nat :=
  lnL ks ts lev n 0 (sb_cat (lnH (hb hid lev) (sb_cat (fun _ => 0) 0 (sb_dec lev.toNatClampNeg)) (0 + sb_dg lev.toNatClampNeg)).1 (lnH (hb hid lev) (sb_cat (fun _ => 0) 0 (sb_dec lev.toNatClampNeg)) (0 + sb_dg lev.toNatClampNeg)).2 (fun _ => 58)) ((lnH (hb hid lev) (sb_cat (fun _ => 0) 0 (sb_dec lev.toNatClampNeg)) (0 + sb_dg lev.toNatClampNeg)).2 + 1)
theorem dg3 {k : Nat} (h : k < 1000) : sb_dg k ≤ 3 := by
  by_cases a : k < 10
  · rw [show sb_dg k = 1 from if_pos a]; decide
  · by_cases b : k < 100
    · rw [show sb_dg k = 2 from (if_neg a).trans (if_pos b)]; decide
    · rw [show sb_dg k = 3 from (if_neg a).trans ((if_neg b).trans (if_pos h))]; decide
theorem lnL_le {ks ts : Nat → Int32} {lev : Int32} {n : Nat} (hk : ∀ j, j < n → ∃ k, k ≤ 999 ∧ ks j = nI k) : ∀ (d j : Nat) (t : Nat → Nat) (N : Nat), j + d = n → (lnL ks ts lev d j t N).2 ≤ N + 4 * d := by
  intro d
  induction d with
  | zero => intro j t N _; exact Nat.le_refl _
  | succ d ih =>
    intro j t N h
    rw [lnL]
    split
    · obtain ⟨k, h1, h2⟩ := hk j (by omega)
      rw [h2, nI_clamp (by omega)]
      have h3 := ih (j + 1) (sb_cat (sb_cat t N (fun _ => 32)) (N + 1) (sb_dec k)) (N + 1 + sb_dg k) (by omega)
      have h4 := dg3 (k := k) (by omega)
      omega
    · have := ih (j + 1) t N (by omega)
      omega
theorem lnH_le {h : Bool} {t : Nat → Nat} {n : Nat} : (lnH h t n).2 ≤ n + 1 := by
  unfold lnH
  split
  · exact Nat.le_refl _
  · exact Nat.le_succ _
theorem lnT_le {n L : Nat} {ks ts : Nat → Int32} {hid : Int32} (hn : n ≤ 24) (hk : ∀ j, j < n → ∃ k, k ≤ 999 ∧ ks j = nI k) (hL : L < 10) : (lnT n ks ts hid (nI L)).2 ≤ 99 := by
  unfold lnT
  have h1 := lnL_le (ts := ts) (lev := nI L) hk n 0 (sb_cat (lnH (hb hid (nI L)) (sb_cat (fun _ => 0) 0 (sb_dec (nI L).toNatClampNeg)) (0 + sb_dg (nI L).toNatClampNeg)).1 (lnH (hb hid (nI L)) (sb_cat (fun _ => 0) 0 (sb_dec (nI L).toNatClampNeg)) (0 + sb_dg (nI L).toNatClampNeg)).2 (fun _ => 58)) ((lnH (hb hid (nI L)) (sb_cat (fun _ => 0) 0 (sb_dec (nI L).toNatClampNeg)) (0 + sb_dg (nI L).toNatClampNeg)).2 + 1) (by omega)
  have h2 := lnH_le (h := hb hid (nI L)) (t := sb_cat (fun _ => 0) 0 (sb_dec (nI L).toNatClampNeg)) (n := 0 + sb_dg (nI L).toNatClampNeg)
  have h3 : sb_dg (nI L).toNatClampNeg = 1 := by rw [nI_clamp (by omega)]; exact if_pos hL
  omega
