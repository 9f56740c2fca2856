/-! searches -/
/-- the place ahead of q folders -/
def pl (q : Nat) : Int32 := nI q + (-1)
theorem pl_s (x : Nat) : pl (x + 1) = nI x := nI_m1 x
theorem pl_0 : pl 0 = -1 := rfl
theorem pl_1 (q : Nat) : pl q + 1 = nI q := by
  cases q with
  | zero => decide
  | succ x => rw [pl_s, nI_1]
theorem pl_span {q x : Nat} (h : q ≤ x) (hx : x < 2 ^ 30) : nI q + (nI x - pl q) = nI (x + 1) := by
  cases q with
  | zero =>
    rw [pl_0, show nI x - (-1 : Int32) = nI x + 1 by rw [Int32.sub_eq_add_neg, Int32.neg_neg], nI_1, nI_add, Nat.zero_add]
  | succ y =>
    rw [pl_s, show nI x - nI y = nI (x - y) from pk_sub (by omega), nI_add, show y + 1 + (x - y) = x + 1 by omega]
section SEARCH
variable {fl n : Nat} {ks ws ts a : Nat → Int32} {key lev hid cn ct' ch : Int32}
theorem nx_le (q : Nat) (hq : q ≤ n) : q ≤ nx n ts lev q ∧ nx n ts lev q ≤ n := by have := fi_le (rg n ts lev) (n - q) q; unfold nx; omega
theorem nx_no {q i : Nat} (h1 : q ≤ i) (h2 : i < nx n ts lev q) : rg n ts lev i = false := fi_no _ _ _ _ h1 h2
theorem nx_yes {q : Nat} (hq : q ≤ n) (h : nx n ts lev q < n) : rg n ts lev (nx n ts lev q) = true := fi_yes _ _ _ (by unfold nx at h; omega)
/-- a search from behind q folders on the level L: where it goes, how often it falls, behind how many folders it ends -/
def sr (n : Nat) (ks ts : Nat → Int32) (hid key : Int32) : Nat → Nat → Nat → List Nat × Nat × Nat
  | 0, q, _ => ([], 0, q)
  | f + 1, q, L =>
    if nx n ts (nI L) q < n ∧ ks (nx n ts (nI L) q) < key then (nx n ts (nI L) q :: (sr n ks ts hid key f (nx n ts (nI L) q + 1) L).1, (sr n ks ts hid key f (nx n ts (nI L) q + 1) L).2)
    else if L = 0 then ([], 0, q)
    else ((sr n ks ts hid key f q (us hid (L - 1))).1, (sr n ks ts hid key f q (us hid (L - 1))).2.1 + 1, (sr n ks ts hid key f q (us hid (L - 1))).2.2)
theorem sr_len : ∀ (f q L : Nat), q ≤ n → q + (sr n ks ts hid key f q L).1.length ≤ n ∧ q ≤ (sr n ks ts hid key f q L).2.2 ∧ (sr n ks ts hid key f q L).2.2 ≤ n ∧ (sr n ks ts hid key f q L).2.1 ≤ L := by
  intro f
  induction f with
  | zero => intro q L hq; rw [sr]; exact ⟨hq, Nat.le_refl _, hq, Nat.zero_le _⟩
  | succ f ih =>
    intro q L hq
    rw [sr]
    have h0 := nx_le (ts := ts) (lev := nI L) q hq
    split
    · rename_i hc
      have h := ih (nx n ts (nI L) q + 1) L (by omega)
      simp only [List.length_cons]
      omega
    · split
      · exact ⟨hq, Nat.le_refl _, hq, Nat.zero_le _⟩
      · rename_i h1
        have h := ih q (us hid (L - 1)) hq
        have h2 := us_le (hid := hid) (L - 1)
        simp only
        omega
theorem p_step (hn : n ≤ 24) (hf : 2000 ≤ fl) {q L g f : Nat} (hq : q ≤ n) (hL : L ≤ 4) : F_X6_step fl (pl q) (nI L) (nI g) (nI f) (nI q) (nI n) hid ks ts key =
    some (if nx n ts (nI L) q < n ∧ ks (nx n ts (nI L) q) < key then (1, pl (nx n ts (nI L) q + 1), nI L, nI (g + 1), nI f, nI (nx n ts (nI L) q + 1)) else if L = 0 then (0, pl q, nI L, nI g, nI f, nI q) else (1, pl q, nI (us hid (L - 1)), nI g, nI (f + 1), nI q)) := by
  have h0 := nx_le (ts := ts) (lev := nI L) q hq
  unfold F_X6_step
  rw [p_nextOn hn hf (pl_1 q) hq, bn_e, p_hasLowerKey hn (by omega), bn_e]
  by_cases hc : nx n ts (nI L) q < n ∧ ks (nx n ts (nI L) q) < key
  · rw [if_pos hc, if_neg (by decide), if_pos hc, pl_s, nI_1, pl_span h0.1 (by omega)]
  · rw [if_neg hc, if_pos rfl, if_neg hc]
    by_cases h2 : L = 0
    · subst h2; rw [if_pos nI_0, if_pos rfl]
    · rw [if_neg (nI_ne0 (by omega) (by omega)), if_neg h2, show nI L - 1 = nI (L - 1) from pk_sub (b := 1) (by omega), p_usedUpTo hf (by omega), bn_e, nI_1]
/-- where a search stands that has gone k times -/
def at_ (q : Nat) (p : List Nat) (k : Nat) : Nat := if k = 0 then q else p.getD (k - 1) 0 + 1
theorem p_reachL (hn : n ≤ 24) (hf : 2000 ≤ fl) {G : Int32} : ∀ (f q L g fa i m : Nat), n - q + L < f → q ≤ n → L ≤ 4 → g ≤ q → i + (n - q) + L < 900 → n - q + L + 2 ≤ m → (g : Int) ≤ G.toInt →
    (G.toInt > g + (sr n ks ts hid key f q L).1.length → F_X6_reaches_36 fl (nI n) hid ks ts m (pl q) (nI L) (nI g) (nI fa) (nI q) key G 1 (nI i) =
      some (0, pl (sr n ks ts hid key f q L).2.2, 0, nI (g + (sr n ks ts hid key f q L).1.length), nI (fa + (sr n ks ts hid key f q L).2.1), nI (sr n ks ts hid key f q L).2.2)) ∧
    (G.toInt ≤ g + (sr n ks ts hid key f q L).1.length → ∃ lv fb, F_X6_reaches_36 fl (nI n) hid ks ts m (pl q) (nI L) (nI g) (nI fa) (nI q) key G 1 (nI i) =
      some (1, pl (at_ q (sr n ks ts hid key f q L).1 (G.toInt.toNat - g)), lv, G, fb, nI (at_ q (sr n ks ts hid key f q L).1 (G.toInt.toNat - g)))) := by
  intro f
  induction f with
  | zero => intro q L g fa i m h; omega
  | succ f ih =>
    intro q L g fa i m hμ hq hL hg hi hm hG
    obtain ⟨m, rfl⟩ : ∃ z, m = z + 1 := ⟨m - 1, by omega⟩
    have h0 := nx_le (ts := ts) (lev := nI L) q hq
    have hgt : (nI g).toInt = (g : Int) := nI_toInt (by omega)
    have hlen := sr_len (ks := ks) (ts := ts) (hid := hid) (key := key) (f + 1) q L hq
    have e1 : F_X6_reaches_36 fl (nI n) hid ks ts (m + 1) (pl q) (nI L) (nI g) (nI fa) (nI q) key G 1 (nI i) = if G ≤ nI g then (if nI g < G then some (0, pl q, nI L, nI g, nI fa, nI q) else some (1, pl q, nI L, nI g, nI fa, nI q)) else (bn6 (F_X6_step fl (pl q) (nI L) (nI g) (nI fa) (nI q) (nI n) hid ks ts key) fun r a b c d e => F_X6_reaches_36 fl (nI n) hid ks ts m a b c d e key G r (nI (i + 1))) := by
      rw [F_X6_reaches_36, l1000, if_neg (fun z => by have := (nI_leI (by omega) (by omega)).mp z; omega), if_neg (by decide), nI_1]
    by_cases hG2 : G.toInt = g
    · have hGe : G = nI g := Int32.toInt_inj.mp (by rw [hG2, hgt])
      refine ⟨fun h => by omega, fun _ => ⟨nI L, nI fa, ?_⟩⟩
      rw [e1, if_pos (by rw [hGe]; exact nI_le (Nat.le_refl _) (by omega)), if_neg (by rw [hGe]; exact nI_nlt (Nat.le_refl _) (by omega)), hG2]
      simp only [Int.toNat_natCast, Nat.sub_self, at_, if_true, hGe]
    · have hgG : (g : Int) < G.toInt := by omega
      rw [e1, if_neg (by rw [Int32.le_iff_toInt_le, hgt]; omega), p_step hn hf hq hL]
      by_cases hc : nx n ts (nI L) q < n ∧ ks (nx n ts (nI L) q) < key
      · rw [if_pos hc]
        have hs : sr n ks ts hid key (f + 1) q L = (nx n ts (nI L) q :: (sr n ks ts hid key f (nx n ts (nI L) q + 1) L).1, (sr n ks ts hid key f (nx n ts (nI L) q + 1) L).2) := by rw [sr, if_pos hc]
        rw [hs]
        simp only [List.length_cons]
        have h := ih (nx n ts (nI L) q + 1) L (g + 1) fa (i + 1) m (by omega) (by omega) hL (by omega) (by omega) (by omega) (by omega)
        refine ⟨fun h2 => ?_, fun h2 => ?_⟩
        · have h3 := h.1 (by omega)
          rw [show g + 1 + (sr n ks ts hid key f (nx n ts (nI L) q + 1) L).1.length = g + ((sr n ks ts hid key f (nx n ts (nI L) q + 1) L).1.length + 1) by omega] at h3
          exact h3
        · obtain ⟨lv, fb, h3⟩ := h.2 (by omega)
          refine ⟨lv, fb, ?_⟩
          have e2 : at_ (nx n ts (nI L) q + 1) (sr n ks ts hid key f (nx n ts (nI L) q + 1) L).1 (G.toInt.toNat - (g + 1)) = at_ q (nx n ts (nI L) q :: (sr n ks ts hid key f (nx n ts (nI L) q + 1) L).1) (G.toInt.toNat - g) := by
            unfold at_
            by_cases hz : G.toInt.toNat - (g + 1) = 0
            · rw [if_pos hz, if_neg (by omega), show G.toInt.toNat - g - 1 = 0 by omega]; rfl
            · rw [if_neg hz, if_neg (by omega), show G.toInt.toNat - g - 1 = (G.toInt.toNat - (g + 1) - 1) + 1 by omega]; rfl
          rw [← e2]
          exact h3
      · rw [if_neg hc]
        by_cases h2 : L = 0
        · subst h2
          have hs : sr n ks ts hid key (f + 1) q 0 = ([], 0, q) := by rw [sr, if_neg hc, if_pos rfl]
          rw [hs, if_pos rfl]
          refine ⟨fun _ => ?_, fun h3 => by simp at h3; omega⟩
          obtain ⟨m, rfl⟩ : ∃ z, m = z + 1 := ⟨m - 1, by omega⟩
          show F_X6_reaches_36 fl (nI n) hid ks ts (m + 1) (pl q) (nI 0) (nI g) (nI fa) (nI q) key G 0 (nI (i + 1)) = _
          rw [F_X6_reaches_36, l1000, if_neg (fun z => by have := (nI_leI (by omega) (by omega)).mp z; omega), if_pos rfl, if_pos (by rw [Int32.lt_iff_toInt_lt, hgt]; omega)]
          rfl
        · rw [if_neg h2]
          have hs : sr n ks ts hid key (f + 1) q L = ((sr n ks ts hid key f q (us hid (L - 1))).1, (sr n ks ts hid key f q (us hid (L - 1))).2.1 + 1, (sr n ks ts hid key f q (us hid (L - 1))).2.2) := by rw [sr, if_neg hc, if_neg h2]
          rw [hs]
          have hu := us_le (hid := hid) (L - 1)
          have h := ih q (us hid (L - 1)) g (fa + 1) (i + 1) m (by omega) hq (by omega) hg (by omega) (by omega) hG
          refine ⟨fun h3 => ?_, fun h3 => h.2 h3⟩
          have h4 := h.1 h3
          rw [show fa + 1 + (sr n ks ts hid key f q (us hid (L - 1))).2.1 = fa + ((sr n ks ts hid key f q (us hid (L - 1))).2.1 + 1) by omega] at h4
          exact h4
/-- the whole search for a key -/
def SR (n : Nat) (ks ts : Nat → Int32) (hid key : Int32) : List Nat × Nat × Nat := sr n ks ts hid key 40 0 (bg n ts hid)
theorem bg_le (hm : mx n ts n ≤ 5) : bg n ts hid ≤ 4 := by have := us_le (hid := hid) (mx n ts n - 1); unfold bg; omega
theorem p_reaches (hn : n ≤ 24) (hf : 2000 ≤ fl) (ht : tw n ts) (hm : mx n ts n ≤ 5) {x1 x2 x3 x4 x5 G : Int32} (hG : 0 ≤ G.toInt) :
    (G.toInt > (SR n ks ts hid key).1.length → F_X6_reaches fl x1 x2 x3 x4 x5 (nI n) hid ks ts key G = some (0, pl (SR n ks ts hid key).2.2, 0, nI (SR n ks ts hid key).1.length, nI (SR n ks ts hid key).2.1, nI (SR n ks ts hid key).2.2)) ∧
    (G.toInt ≤ (SR n ks ts hid key).1.length → ∃ lv fb, F_X6_reaches fl x1 x2 x3 x4 x5 (nI n) hid ks ts key G = some (1, pl (at_ 0 (SR n ks ts hid key).1 G.toInt.toNat), lv, G, fb, nI (at_ 0 (SR n ks ts hid key).1 G.toInt.toNat))) := by
  unfold F_X6_reaches SR
  have hb := bg_le (hid := hid) hm
  rw [p_beginning hn hf ht, bn_e]
  have h := p_reachL (fl := fl) (ks := ks) (ts := ts) (hid := hid) (key := key) (G := G) hn hf 40 0 (bg n ts hid) 0 0 0 fl (by omega) (Nat.zero_le _) hb (Nat.zero_le _) (by omega) (by omega) (by omega)
  simp only [Nat.zero_add, Int.natCast_zero, Int.zero_add, Nat.sub_zero] at h
  exact h
theorem SR_len (hm : mx n ts n ≤ 5) : (SR n ks ts hid key).1.length ≤ n ∧ (SR n ks ts hid key).2.2 ≤ n ∧ (SR n ks ts hid key).2.1 ≤ 4 := by
  have hb := bg_le (hid := hid) hm
  have h := sr_len (ks := ks) (ts := ts) (hid := hid) (key := key) 40 0 (bg n ts hid) (Nat.zero_le n)
  unfold SR
  omega
theorem p_stepsTo (hn : n ≤ 24) (hf : 2000 ≤ fl) (ht : tw n ts) (hm : mx n ts n ≤ 5) {x1 x2 x3 x4 x5 : Int32} : F_X6_stepsTo fl x1 x2 x3 x4 x5 (nI n) hid ks ts key =
    some (nI ((SR n ks ts hid key).1.length + (SR n ks ts hid key).2.1), pl (SR n ks ts hid key).2.2, 0, nI (SR n ks ts hid key).1.length, nI (SR n ks ts hid key).2.1, nI (SR n ks ts hid key).2.2) := by
  unfold F_X6_stepsTo
  have h := SR_len (ks := ks) (hid := hid) (key := key) hm
  rw [(p_reaches hn hf ht hm (by decide)).1 (by rw [show (25 : Int32).toInt = 25 by decide]; omega), ← nI_add]
  rfl
theorem p_fallsTo (hn : n ≤ 24) (hf : 2000 ≤ fl) (ht : tw n ts) (hm : mx n ts n ≤ 5) {x1 x2 x3 x4 x5 : Int32} : F_X6_fallsTo fl x1 x2 x3 x4 x5 (nI n) hid ks ts key =
    some (nI (SR n ks ts hid key).2.1, pl (SR n ks ts hid key).2.2, 0, nI (SR n ks ts hid key).1.length, nI (SR n ks ts hid key).2.1, nI (SR n ks ts hid key).2.2) := by
  unfold F_X6_fallsTo
  have h := SR_len (ks := ks) (hid := hid) (key := key) hm
  rw [(p_reaches hn hf ht hm (by decide)).1 (by rw [show (25 : Int32).toInt = 25 by decide]; omega)]
  rfl
theorem p_spansTo (hn : n ≤ 24) (hf : 2000 ≤ fl) (ht : tw n ts) (hm : mx n ts n ≤ 5) {x1 x2 x3 x4 x5 : Int32} : F_X6_spansTo fl x1 x2 x3 x4 x5 (nI n) hid ks ts key =
    some (nI (SR n ks ts hid key).2.2, pl (SR n ks ts hid key).2.2, 0, nI (SR n ks ts hid key).1.length, nI (SR n ks ts hid key).2.1, nI (SR n ks ts hid key).2.2) := by
  unfold F_X6_spansTo
  have h := SR_len (ks := ks) (hid := hid) (key := key) hm
  rw [(p_reaches hn hf ht hm (by decide)).1 (by rw [show (25 : Int32).toInt = 25 by decide]; omega)]
  rfl
end SEARCH
