section BACK
variable {fl n : Nat} {ks ws ts a : Nat → Int32} {key lev hid cn ct' ch : Int32}
theorem pv_eq (p : Nat → Bool) {x q : Nat} (hq : q ≤ x) (h1 : ∀ i, q ≤ i → i < x → p i = false) (h2 : q = 0 ∨ p (q - 1) = true) : pv p x = q := by
  rcases Nat.lt_trichotomy (pv p x) q with h | h | h
  · rcases h2 with h2 | h2
    · omega
    · have := pv_no p x (q - 1) (by omega) (by omega)
      rw [h2] at this; cases this
  · exact h
  · have h3 := pv_yes p x (pv p x - 1) (by omega)
    have h4 := pv_le p x
    rw [h1 (pv p x - 1) (by omega) (by omega)] at h3
    cases h3
/-- a used level, or the level 0 -/
def ul (hid : Int32) (L : Nat) : Prop := L = 0 ∨ hb hid (nI L) = false
theorem us_ul (L : Nat) : ul hid (us hid L) := by
  induction L with
  | zero => exact Or.inl rfl
  | succ L ih =>
    rw [us]
    split
    · exact ih
    · rename_i h; exact Or.inr (Bool.eq_false_iff.mpr h)
theorem us_hid {L A : Nat} (h1 : us hid L < A) (h2 : A ≤ L) : hb hid (nI A) = true := by
  induction L with
  | zero => omega
  | succ L ih =>
    rw [us] at h1
    split at h1
    · rename_i hc
      by_cases e : A = L + 1
      · subst e; exact hc
      · exact ih h1 (by omega)
    · omega
/-- the next used level above L -/
abbrev up (hid : Int32) (L : Nat) : Nat := ua hid (4 - L) (L + 1)
theorem ua_le : ∀ (d L : Nat), L ≤ ua hid d L ∧ ua hid d L ≤ L + d := by
  intro d
  induction d with
  | zero => intro L; exact ⟨Nat.le_refl _, Nat.le_refl _⟩
  | succ d ih =>
    intro L
    rw [ua]
    have := ih (L + 1)
    split <;> omega
theorem ua_hid : ∀ (d L A : Nat), L ≤ A → A < ua hid d L → hb hid (nI A) = true := by
  intro d
  induction d with
  | zero => intro L A h1 h2; rw [ua] at h2; omega
  | succ d ih =>
    intro L A h1 h2
    rw [ua] at h2
    split at h2
    · rename_i hc
      by_cases e : A = L
      · subst e; exact hc
      · exact ih (L + 1) A (by omega) h2
    · omega
theorem ua_ul : ∀ (d L : Nat), ua hid d L < L + d → hb hid (nI (ua hid d L)) = false := by
  intro d
  induction d with
  | zero => intro L h; rw [ua] at h; omega
  | succ d ih =>
    intro L h
    rw [ua] at h ⊢
    split
    · rename_i hc
      rw [if_pos hc] at h
      exact ih (L + 1) (by omega)
    · rename_i hc; exact Bool.eq_false_iff.mpr hc
theorem up_us {L : Nat} (hL : 1 ≤ L) (h4 : L ≤ 4) (hu : ul hid L) : up hid (us hid (L - 1)) = L := by
  have h0 := us_le (hid := hid) (L - 1)
  have h1 := ua_le (hid := hid) (4 - us hid (L - 1)) (us hid (L - 1) + 1)
  have hf : hb hid (nI L) = false := hu.resolve_left (by omega)
  rcases Nat.lt_trichotomy (up hid (us hid (L - 1))) L with h | h | h
  · have h2 := ua_ul (hid := hid) (4 - us hid (L - 1)) (us hid (L - 1) + 1) (by show up hid (us hid (L - 1)) < _; omega)
    have h3 := us_hid (hid := hid) (L := L - 1) (A := up hid (us hid (L - 1))) (by show _ < ua hid _ _; omega) (by omega)
    rw [h2] at h3; cases h3
  · exact h
  · have h2 := ua_hid (hid := hid) (4 - us hid (L - 1)) (us hid (L - 1) + 1) L (by omega) h
    rw [hf] at h2; cases h2
/-- what a search keeps: behind q folders on L -/
def iv (n : Nat) (ks ts : Nat → Int32) (hid key : Int32) (q L : Nat) : Prop :=
  q ≤ n ∧ L ≤ bg n ts hid ∧ ul hid L ∧ (q = 0 ∨ rg n ts (nI L) (q - 1) = true) ∧ (∀ i, q ≤ i → i < n → ks i < key → ¬ nI (up hid L) < ts i) ∧ ∀ i, i < q → ks i < key
theorem iv_0 (ht : tw n ts) (hm : mx n ts n ≤ 5) : iv n ks ts hid key 0 (bg n ts hid) := by
  refine ⟨Nat.zero_le _, Nat.le_refl _, us_ul _, Or.inl rfl, fun i _ hi _ h => ?_, fun i h => absurd h (Nat.not_lt_zero i)⟩
  obtain ⟨t, a1, a2, a3⟩ := ht i hi
  have h1 := mx_ge (n := n) (ts := ts) hi
  rw [a3, nI_clamp (by omega)] at h1
  rw [a3] at h
  have hl : bg n ts hid + 1 ≤ up hid (bg n ts hid) ∧ up hid (bg n ts hid) ≤ bg n ts hid + 1 + (4 - bg n ts hid) := ua_le (hid := hid) (4 - bg n ts hid) (bg n ts hid + 1)
  have hb4 := bg_le (hid := hid) hm
  have h2 := (nI_ltI (by omega) (by omega)).mp h
  have h3 : hb hid (nI (up hid (bg n ts hid))) = true := us_hid (hid := hid) (L := mx n ts n - 1) (by show bg n ts hid < _; omega) (by omega)
  have h4 : hb hid (nI (up hid (bg n ts hid))) = false := ua_ul (hid := hid) (4 - bg n ts hid) (bg n ts hid + 1) (by show up hid (bg n ts hid) < _; omega)
  rw [h4] at h3; cases h3
theorem iv_go (hs : so n ks) {q L : Nat} (h : iv n ks ts hid key q L) (hc : nx n ts (nI L) q < n ∧ ks (nx n ts (nI L) q) < key) : iv n ks ts hid key (nx n ts (nI L) q + 1) L := by
  obtain ⟨h1, h2, h3, h4, h5, h6⟩ := h
  have h0 := nx_le (ts := ts) (lev := nI L) q h1
  refine ⟨by omega, h2, h3, Or.inr (nx_yes h1 hc.1), fun i hi => h5 i (by omega), fun i hi => ?_⟩
  by_cases e : i = nx n ts (nI L) q
  · rw [e]; exact hc.2
  · exact lt_tr (hs i _ (by omega) hc.1) hc.2
theorem iv_fall (ht : tw n ts) (hs : so n ks) (hm : mx n ts n ≤ 5) {q L : Nat} (h : iv n ks ts hid key q L) (hL : L ≠ 0) (hc : ¬ (nx n ts (nI L) q < n ∧ ks (nx n ts (nI L) q) < key)) : iv n ks ts hid key q (us hid (L - 1)) := by
  obtain ⟨h1, h2, h3, h4, h5, h6⟩ := h
  have h0 := nx_le (ts := ts) (lev := nI L) q h1
  have hu := us_le (hid := hid) (L - 1)
  have hb := bg_le (hid := hid) hm
  refine ⟨h1, by omega, us_ul _, ?_, fun i hi hin hk hr => ?_, h6⟩
  · rcases h4 with h4 | h4
    · exact Or.inl h4
    · refine Or.inr (decide_eq_true ?_)
      have h7 := of_decide_eq_true h4
      obtain ⟨t, a1, a2, a3⟩ := ht (q - 1) h7.1
      refine ⟨h7.1, ?_⟩
      have h8 := h7.2
      rw [a3] at h8 ⊢
      have h9 := (nI_ltI (by omega) (by omega)).mp h8
      exact nI_lt (by omega) (by omega)
  · rw [up_us (by omega) (by omega) h3] at hr
    have hri : rg n ts (nI L) i = true := decide_eq_true ⟨hin, hr⟩
    have hx : nx n ts (nI L) q ≤ i := by
      rcases Nat.lt_or_ge i (nx n ts (nI L) q) with z | z
      · have := nx_no hi z; rw [hri] at this; cases this
      · exact z
    exact hc ⟨by omega, le_lt_tr (so_le hs hx hin) hk⟩
/-- one step back -/
theorem b_step (hn : n ≤ 24) (hf : 2000 ≤ fl) (ht : tw n ts) {x1 : Int32} {m q L B st : Nat} (hq : q ≤ n) (hL : L ≤ 4) (hB : B ≤ 4) (hne : ¬ (q = 0 ∧ L = B)) (hst : st < 1000) :
    F_X6_stepsBackFrom_25 fl (nI n) hid ks ts (m + 1) x1 (nI B) (pl q) (nI L) (nI st) =
      if q = 0 ∨ rg n ts (nI (up hid L)) (q - 1) = true then F_X6_stepsBackFrom_25 fl (nI n) hid ks ts m x1 (nI B) (pl q) (nI (up hid L)) (nI (st + 1))
      else F_X6_stepsBackFrom_25 fl (nI n) hid ks ts m x1 (nI B) (pl (pv (rg n ts (nI L)) (q - 1))) (nI L) (nI (st + 1)) := by
  rw [F_X6_stepsBackFrom_25]
  cases q with
  | zero =>
    have hb : ¬ nI L = nI B := fun z => hne ⟨rfl, (nI_eq (by omega) (by omega)).mp z⟩
    rw [if_pos pl_0, if_neg hb, l1000, if_neg (fun z => by have := (nI_leI (by omega) (by omega)).mp z; omega), p_usedAbove hf hL, bn_e, if_pos pl_0, if_pos (Or.inl rfl), nI_1]
  | succ y =>
    have e : ¬ pl (y + 1) = -1 := by
      rw [pl_s]
      intro z
      have h1 := nI_toInt (n := y) (by omega)
      rw [z, show ((-1 : Int32)).toInt = -1 by decide] at h1
      omega
    rw [if_neg e, l1000, if_neg (fun z => by have := (nI_leI (by omega) (by omega)).mp z; omega), p_usedAbove hf hL, bn_e, if_neg e]
    rw [pl_s, p_hasRung hn (by omega), bn_e, Nat.add_sub_cancel, nI_1]
    by_cases h : rg n ts (nI (up hid L)) y = true
    · rw [if_pos h, if_neg (by decide), if_pos (Or.inr h)]
    · rw [if_neg h, if_pos rfl, if_neg (fun z => z.elim (fun z => by omega) h), p_previousOn hn hf (by omega), bn_e]; rfl
theorem b_all (hn : n ≤ 24) (hf : 2000 ≤ fl) (ht : tw n ts) (hs : so n ks) (hm : mx n ts n ≤ 5) {x1 : Int32} : ∀ (f q L m st : Nat), n - q + L < f → iv n ks ts hid key q L → (sr n ks ts hid key f q L).1.length + (sr n ks ts hid key f q L).2.1 + st < 900 →
    F_X6_stepsBackFrom_25 fl (nI n) hid ks ts (m + ((sr n ks ts hid key f q L).1.length + (sr n ks ts hid key f q L).2.1)) x1 (nI (bg n ts hid)) (pl (sr n ks ts hid key f q L).2.2) (nI 0) (nI st) =
      F_X6_stepsBackFrom_25 fl (nI n) hid ks ts m x1 (nI (bg n ts hid)) (pl q) (nI L) (nI (st + ((sr n ks ts hid key f q L).1.length + (sr n ks ts hid key f q L).2.1))) := by
  intro f
  induction f with
  | zero => intro q L m st hμ; omega
  | succ f ih =>
    intro q L m st hμ hi hst
    have h0 := nx_le (ts := ts) (lev := nI L) q hi.1
    have hbg := bg_le (hid := hid) hm
    have hL4 : L ≤ 4 := Nat.le_trans hi.2.1 hbg
    by_cases hc : nx n ts (nI L) q < n ∧ ks (nx n ts (nI L) q) < key
    · have e : sr n ks ts hid key (f + 1) q L = (nx n ts (nI L) q :: (sr n ks ts hid key f (nx n ts (nI L) q + 1) L).1, (sr n ks ts hid key f (nx n ts (nI L) q + 1) L).2) := by rw [sr, if_pos hc]
      rw [e] at hst ⊢
      simp only [List.length_cons] at hst ⊢
      have hg := iv_go hs hi hc
      have h := ih (nx n ts (nI L) q + 1) L (m + 1) st (by omega) hg (by omega)
      rw [show m + ((sr n ks ts hid key f (nx n ts (nI L) q + 1) L).1.length + 1 + (sr n ks ts hid key f (nx n ts (nI L) q + 1) L).2.1) = m + 1 + ((sr n ks ts hid key f (nx n ts (nI L) q + 1) L).1.length + (sr n ks ts hid key f (nx n ts (nI L) q + 1) L).2.1) by omega, h,
        b_step hn hf ht (by omega) hL4 hbg (by omega) (by omega), if_neg ?_, Nat.add_sub_cancel, pv_eq (rg n ts (nI L)) h0.1 (fun i a b => nx_no a b) hi.2.2.2.1]
      · rw [show st + ((sr n ks ts hid key f (nx n ts (nI L) q + 1) L).1.length + (sr n ks ts hid key f (nx n ts (nI L) q + 1) L).2.1) + 1 = st + ((sr n ks ts hid key f (nx n ts (nI L) q + 1) L).1.length + 1 + (sr n ks ts hid key f (nx n ts (nI L) q + 1) L).2.1) by omega]
      · rintro (z | z)
        · omega
        · rw [Nat.add_sub_cancel] at z
          exact hi.2.2.2.2.1 _ h0.1 hc.1 hc.2 (of_decide_eq_true z).2
    · by_cases hL : L = 0
      · subst hL
        have e : sr n ks ts hid key (f + 1) q 0 = ([], 0, q) := by rw [sr, if_neg hc, if_pos rfl]
        rw [e]; rfl
      · have e : sr n ks ts hid key (f + 1) q L = ((sr n ks ts hid key f q (us hid (L - 1))).1, (sr n ks ts hid key f q (us hid (L - 1))).2.1 + 1, (sr n ks ts hid key f q (us hid (L - 1))).2.2) := by rw [sr, if_neg hc, if_neg hL]
        rw [e] at hst ⊢
        simp only at hst ⊢
        have hu := us_le (hid := hid) (L - 1)
        have hg := iv_fall ht hs hm hi hL hc
        have h := ih q (us hid (L - 1)) (m + 1) st (by omega) hg (by omega)
        have hup := up_us (hid := hid) (by omega) hL4 hi.2.2.1
        rw [show m + ((sr n ks ts hid key f q (us hid (L - 1))).1.length + ((sr n ks ts hid key f q (us hid (L - 1))).2.1 + 1)) = m + 1 + ((sr n ks ts hid key f q (us hid (L - 1))).1.length + (sr n ks ts hid key f q (us hid (L - 1))).2.1) by omega, h,
          b_step hn hf ht hi.1 (by omega) hbg (fun z => by have := hi.2.1; omega) (by omega), hup, if_pos hi.2.2.2.1]
        rw [show st + ((sr n ks ts hid key f q (us hid (L - 1))).1.length + (sr n ks ts hid key f q (us hid (L - 1))).2.1) + 1 = st + ((sr n ks ts hid key f q (us hid (L - 1))).1.length + ((sr n ks ts hid key f q (us hid (L - 1))).2.1 + 1)) by omega]
theorem p_stepsBack (hn : n ≤ 24) (hf : 2000 ≤ fl) (ht : tw n ts) (hs : so n ks) (hm : mx n ts n ≤ 5) : F_X6_stepsBackFrom fl (nI n) hid ks ts key = some (nI ((SR n ks ts hid key).1.length + (SR n ks ts hid key).2.1)) := by
  unfold F_X6_stepsBackFrom
  have hl := SR_len (ks := ks) (hid := hid) (key := key) hm
  have hbg := bg_le (hid := hid) hm
  have hend := SR_end (key := key) (hid := hid) hn ht hs hm
  rw [p_beginning hn hf ht, bn_e, p_lowerKeys hn hf, bn_e, show nI (lw n ks key) - (1 : Int32) = pl (lw n ks key) from Int32.sub_eq_add_neg .., ← hend]
  obtain ⟨m, hm2⟩ : ∃ z, fl = z + 1 + ((SR n ks ts hid key).1.length + (SR n ks ts hid key).2.1) := ⟨fl - 1 - ((SR n ks ts hid key).1.length + (SR n ks ts hid key).2.1), by omega⟩
  have h := b_all (fl := fl) (x1 := key) (key := key) hn hf ht hs hm 40 0 (bg n ts hid) (m + 1) 0 (by omega) (iv_0 ht hm) (by show (SR n ks ts hid key).1.length + (SR n ks ts hid key).2.1 + 0 < 900; omega)
  have h2 : F_X6_stepsBackFrom_25 fl (nI n) hid ks ts fl key (nI (bg n ts hid)) (pl (SR n ks ts hid key).2.2) (nI 0) (nI 0) = F_X6_stepsBackFrom_25 fl (nI n) hid ks ts (m + 1) key (nI (bg n ts hid)) (pl 0) (nI (bg n ts hid)) (nI (0 + ((SR n ks ts hid key).1.length + (SR n ks ts hid key).2.1))) := by
    exact (congrArg (fun z => F_X6_stepsBackFrom_25 fl (nI n) hid ks ts z key (nI (bg n ts hid)) (pl (SR n ks ts hid key).2.2) (nI 0) (nI 0)) hm2).trans h
  refine h2.trans ?_
  rw [F_X6_stepsBackFrom_25, if_pos pl_0, if_pos rfl, Nat.zero_add]
end BACK
