/-! what holds of every ladder, and what commands ask -/
variable {fl n : Nat} {ks ws ts a : Nat → Int32} {key lev hid cn ct' ch : Int32}
def LI (n : Nat) (ks ts : Nat → Int32) (hid : Int32) : Prop := n ≤ 24 ∧ so n ks ∧ tw n ts ∧ (∀ j, j < n → ∃ k, k ≤ 999 ∧ ks j = nI k) ∧ ∃ q, q < 32 ∧ hid = nI q
def LL (z hid : Int32) (ks ws ts : Nat → Int32) (cn ct ch : Int32) (a : Nat → Int32) : Prop := ∃ n, z = nI n ∧ LI n ks ts hid ∧ MR n ks ws ts cn ct ch hid a
def inR (lo hi x : Int32) : Bool := decide (lo ≤ x ∧ x ≤ hi)
theorem p_outside {lo hi x : Int32} : F_X0_outside fl x lo hi = some (if inR lo hi x then 0 else 1) := by
  unfold F_X0_outside inR
  by_cases h1 : x < lo
  · rw [if_pos h1, if_neg (fun q => absurd h1 ((le_iff_nlt _ _).mp (of_decide_eq_true q).1))]
  · rw [if_neg h1]
    by_cases h2 : x ≤ hi
    · rw [if_pos h2, if_pos (decide_eq_true ⟨(nlt_iff_le _ _).mp h1, h2⟩)]
    · rw [if_neg h2, if_neg (fun q => h2 (of_decide_eq_true q).2)]
theorem q_in {lo hi x : Int32} : F_X8_in fl x lo hi = some (if inR lo hi x then 1 else 0) := by
  unfold F_X8_in inR
  by_cases h1 : x < lo
  · rw [if_pos h1, if_neg (fun q => absurd h1 ((le_iff_nlt _ _).mp (of_decide_eq_true q).1))]
  · rw [if_neg h1]
    by_cases h2 : hi < x
    · rw [if_pos h2, if_neg (fun q => (le_iff_nlt _ _).mp (of_decide_eq_true q).2 h2)]
    · rw [if_neg h2, if_pos (decide_eq_true ⟨(nlt_iff_le _ _).mp h1, (nlt_iff_le _ _).mp h2⟩)]
theorem ok01 {c : Bool} : okB (if c = true then (1 : Int32) else 0) = true := by cases c <;> decide
theorem q_isKey {x : Int32} : F_X8_isKey fl x = some (if inR 0 999 x then 1 else 0) := by
  unfold F_X8_isKey; rw [q_in, bn_e, gd_e ok01]
theorem q_isWeight {x : Int32} : F_X8_isWeight fl x = some (if inR 0 99 x then 1 else 0) := by
  unfold F_X8_isWeight; rw [q_in, bn_e, gd_e ok01]
theorem q_isLevel {x : Int32} : F_X8_isLevel fl x = some (if inR 0 4 x then 1 else 0) := by
  unfold F_X8_isLevel; rw [q_in, bn_e, gd_e ok01]
theorem inR_n {lo hi : Nat} {x : Int32} (h : inR (nI lo) (nI hi) x = true) (hl : lo < 2 ^ 31) (hh : hi < 2 ^ 31) : ∃ k, lo ≤ k ∧ k ≤ hi ∧ x = nI k := by
  obtain ⟨h1, h2⟩ := of_decide_eq_true h
  have h0 : ¬ x < 0 := by
    rw [Int32.le_iff_toInt_le, nI_toInt hl] at h1
    rw [Int32.lt_iff_toInt_lt, show (0 : Int32).toInt = 0 by decide]
    omega
  obtain ⟨k, hk, rfl⟩ := nI_of h0
  exact ⟨k, (nI_leI hl hk).mp h1, (nI_leI hk hh).mp h2, rfl⟩
theorem inR_k {x : Int32} (h : inR 0 999 x = true) : ∃ k, k ≤ 999 ∧ x = nI k := by
  obtain ⟨k, -, h1, h2⟩ := inR_n (lo := 0) (hi := 999) h (by decide) (by decide); exact ⟨k, h1, h2⟩
theorem nI_inR {lo hi k : Nat} (h1 : lo ≤ k) (h2 : k ≤ hi) (hh : hi < 2 ^ 31) : inR (nI lo) (nI hi) (nI k) = true := decide_eq_true ⟨(nI_leI (by omega) (by omega)).mpr h1, (nI_leI (by omega) (by omega)).mpr h2⟩
theorem pw_some {j : Nat} (h : pw n ks key = some j) : j < n ∧ ks j = key ∧ j = lw n ks key := by
  unfold pw at h
  split at h
  · rename_i g; cases h; exact ⟨g.1, g.2, rfl⟩
  · cases h
theorem pw_none (h : pw n ks key = none) (g : lw n ks key < n) : ks (lw n ks key) ≠ key := by
  unfold pw at h
  split at h
  · cases h
  · rename_i e; exact fun z => e ⟨g, z⟩
theorem lt_le_ne {x y : Int32} (h : x ≤ y) (g : x ≠ y) : x < y := by
  rw [Int32.lt_iff_toInt_lt]; rw [Int32.le_iff_toInt_le] at h
  have : x.toInt ≠ y.toInt := fun e => g (Int32.toInt_inj.mp e)
  omega
theorem LI_ins (hl : LI n ks ts hid) (hn : n < 24) {k : Int32} (hp : pw n ks k = none) (hk : ∃ q, q ≤ 999 ∧ k = nI q) {t : Nat} (h1 : 1 ≤ t) (h5 : t ≤ 5) : LI (n + 1) (ins ks (lw n ks k) n k) (ins ts (lw n ks k) n (nI t)) hid := by
  obtain ⟨-, hs, ht, hkk, hq⟩ := hl
  have hlw := lw_le (n := n) (ks := ks) (key := k)
  have hgt : ∀ i, lw n ks k ≤ i → i < n → k < ks i := fun i g1 g2 => by
    have g3 := lt_le_ne (lw_at (n := n) (ks := ks) (key := k) (by omega)) (fun z => pw_none hp (by omega) z.symm)
    exact lt_le_tr g3 (so_le hs g1 g2)
  refine ⟨by omega, fun i j hij hj => ?_, fun j hj => ?_, fun j hj => ?_, hq⟩
  · rcases Nat.lt_trichotomy i (lw n ks k) with c | c | c
    · rw [ins_lo c]
      rcases Nat.lt_trichotomy j (lw n ks k) with e | e | e
      · rw [ins_lo e]; exact hs i j hij (by omega)
      · rw [e, ins_p]; exact lw_lt c
      · rw [ins_hi e (by omega)]; exact hs i (j - 1) (by omega) (by omega)
    · rw [c, ins_p, ins_hi (by omega) (by omega)]; exact hgt (j - 1) (by omega) (by omega)
    · rw [ins_hi c (by omega), ins_hi (by omega) (by omega)]; exact hs (i - 1) (j - 1) (by omega) (by omega)
  · rcases Nat.lt_trichotomy j (lw n ks k) with e | e | e
    · rw [ins_lo e]; exact ht j (by omega)
    · rw [e, ins_p]; exact ⟨t, h1, h5, rfl⟩
    · rw [ins_hi e (by omega)]; exact ht (j - 1) (by omega)
  · rcases Nat.lt_trichotomy j (lw n ks k) with e | e | e
    · rw [ins_lo e]; exact hkk j (by omega)
    · rw [e, ins_p]; exact hk
    · rw [ins_hi e (by omega)]; exact hkk (j - 1) (by omega)
theorem lw_ins (hl : LI n ks ts hid) {k : Int32} (hp : pw n ks k = none) : lw (n + 1) (ins ks (lw n ks k) n k) k = lw n ks k := by
  obtain ⟨-, hs, -⟩ := hl
  have hlw := lw_le (n := n) (ks := ks) (key := k)
  unfold lw
  exact fi_eq _ (Nat.zero_le _) (by unfold lw at hlw; omega) (fun i _ hi => decide_eq_false (fun z => by
    rw [ins_lo hi] at z
    exact (le_iff_nlt _ _).mp z (lw_lt hi))) (fun _ => decide_eq_true (by
    show k ≤ ins ks (lw n ks k) n k (lw n ks k)
    rw [ins_p, Int32.le_iff_toInt_le]; exact Int.le_refl _))
theorem LI_del (hl : LI (n + 1) ks ts hid) {p : Nat} : LI n (dl ks p n) (dl ts p n) hid := by
  obtain ⟨hn, hs, ht, hkk, hq⟩ := hl
  refine ⟨by omega, fun i j hij hj => ?_, fun j hj => ?_, fun j hj => ?_, hq⟩
  · by_cases c : i < p
    · rw [dl_lo c]
      by_cases e : j < p
      · rw [dl_lo e]; exact hs i j hij (by omega)
      · rw [dl_hi (by omega) hj]; exact hs i (j + 1) (by omega) (by omega)
    · rw [dl_hi (by omega) (by omega), dl_hi (by omega) hj]; exact hs (i + 1) (j + 1) (by omega) (by omega)
  · by_cases e : j < p
    · rw [dl_lo e]; exact ht j (by omega)
    · rw [dl_hi (by omega) hj]; exact ht (j + 1) (by omega)
  · by_cases e : j < p
    · rw [dl_lo e]; exact hkk j (by omega)
    · rw [dl_hi (by omega) hj]; exact hkk (j + 1) (by omega)
theorem upd_id {f : Nat → Int32} {j : Nat} : upd f j (f j) = f := by
  funext i
  by_cases e : i = j
  · subst e; exact pk_us
  · exact pk_un e
theorem LI_t (hl : LI n ks ts hid) {j t : Nat} (h1 : 1 ≤ t) (h5 : t ≤ 5) : LI n ks (upd ts j (nI t)) hid := by
  obtain ⟨hn, hs, ht, hkk, hq⟩ := hl
  refine ⟨hn, hs, fun i hi => ?_, hkk, hq⟩
  by_cases e : i = j
  · subst e; exact ⟨t, h1, h5, pk_us⟩
  · rw [pk_un e]; exact ht i hi
theorem MR_t (h : MR n ks ws ts cn ct' ch hid a) {j : Nat} {t : Int32} : MR n ks ws (upd ts j t) cn ct' ch hid (upd a (7 + 3 * j) t) := by
  obtain ⟨e0, e1, e2, e3, e4, e5⟩ := h
  refine ⟨by rw [pk_un (by omega)]; exact e0, by rw [pk_un (by omega)]; exact e1, by rw [pk_un (by omega)]; exact e2, by rw [pk_un (by omega)]; exact e3, by rw [pk_un (by omega)]; exact e4, fun i hi => ?_⟩
  rw [pk_un (by omega), pk_un (by omega)]
  refine ⟨(e5 i hi).1, (e5 i hi).2.1, ?_⟩
  by_cases e : i = j
  · subst e; rw [pk_us, pk_us]
  · rw [pk_un e, pk_un (by omega)]; exact (e5 i hi).2.2
theorem MR_w (h : MR n ks ws ts cn ct' ch hid a) {j : Nat} {t : Int32} : MR n ks (upd ws j t) ts cn ct' ch hid (upd a (6 + 3 * j) t) := by
  obtain ⟨e0, e1, e2, e3, e4, e5⟩ := h
  refine ⟨by rw [pk_un (by omega)]; exact e0, by rw [pk_un (by omega)]; exact e1, by rw [pk_un (by omega)]; exact e2, by rw [pk_un (by omega)]; exact e3, by rw [pk_un (by omega)]; exact e4, fun i hi => ?_⟩
  rw [pk_un (by omega), pk_un (show 7 + 3 * i ≠ 6 + 3 * j by omega)]
  refine ⟨(e5 i hi).1, ?_, (e5 i hi).2.2⟩
  by_cases e : i = j
  · subst e; rw [pk_us, pk_us]
  · rw [pk_un e, pk_un (by omega)]; exact (e5 i hi).2.1
theorem MR_h (h : MR n ks ws ts cn ct' ch hid a) {x : Int32} : MR n ks ws ts cn ct' ch x (upd a 4 x) := by
  obtain ⟨e0, e1, e2, e3, e4, e5⟩ := h
  refine ⟨by rw [pk_un (by omega)]; exact e0, by rw [pk_un (by omega)]; exact e1, by rw [pk_un (by omega)]; exact e2, by rw [pk_un (by omega)]; exact e3, pk_us, fun i hi => ?_⟩
  rw [pk_un (by omega), pk_un (by omega), pk_un (by omega)]
  exact e5 i hi
theorem bn2_id {A1 A2 : Type} {x : Option (A1 × A2)} : bn2 x (fun a b => some (a, b)) = x := by cases x <;> rfl
