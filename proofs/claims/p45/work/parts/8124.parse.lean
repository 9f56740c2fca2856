/-! texts: numbers and signs -/
variable {fl : Nat} {TX told : Nat → Int32} {M q L i : Nat} {c at' fy : Int32}
def dig (M : Nat) (TX : Nat → Int32) (q : Nat) : Bool := decide (q < M ∧ inR 48 57 (TX q) = true)
/-- digits read: the number, the place behind -/
def rn (M : Nat) (TX : Nat → Int32) : Nat → Nat → Int32 → Int32 × Nat
  | 0, q, v => (v, q)
  | r + 1, q, v => if dig M TX q = true then rn M TX r (q + 1) (((10 : Int32) * v + TX q) - (48 : Int32)) else (v, q)
theorem rn_le : ∀ (r q : Nat) (v : Int32), q ≤ M → q ≤ (rn M TX r q v).2 ∧ (rn M TX r q v).2 ≤ M := by
  intro r
  induction r with
  | zero => intro q v h; exact ⟨Nat.le_refl _, h⟩
  | succ r ih =>
    intro q v h
    rw [rn]
    by_cases c : dig M TX q = true
    · rw [if_pos c]
      have := ih (q + 1) (((10 : Int32) * v + TX q) - (48 : Int32)) (of_decide_eq_true c).1
      omega
    · rw [if_neg c]; exact ⟨Nat.le_refl _, h⟩
def nv (M : Nat) (TX : Nat → Int32) (L q : Nat) : Int32 := (rn M TX L q 0).1
def nq (M : Nat) (TX : Nat → Int32) (L q : Nat) : Nat := (rn M TX L q 0).2
theorem nq_le (h : q ≤ M) : q ≤ nq M TX L q ∧ nq M TX L q ≤ M := rn_le L q 0 h
theorem p_look (hM : M ≤ 60) (h : q < 2 ^ 31) : F_X5_look fl (nI M) (nI q) TX = some (if q < M then TX q else -1) := by
  unfold F_X5_look
  rw [if_neg (nI_nlt0 h)]
  by_cases c : q < M
  · rw [if_neg (fun z => by have := (nI_leI (by omega) h).mp z; omega), if_neg (fun z => by have := (nI_leI (a := 60) (by omega) h).mp z; omega), g_lit (by omega) (by decide), nI_clamp h, if_pos c]
  · rw [if_pos ((nI_leI (by omega) h).mpr (by omega)), if_neg c]
theorem p_isDigit {x : Int32} : F_X5_isDigit fl x = some (if inR 48 57 x = true then 1 else 0) := by
  unfold F_X5_isDigit inR
  by_cases h1 : x < 48
  · rw [if_pos h1, if_neg (fun q => absurd h1 ((le_iff_nlt _ _).mp (of_decide_eq_true q).1))]
  · rw [if_neg h1]
    by_cases h2 : 57 < x
    · rw [if_pos h2, if_neg (fun q => (le_iff_nlt _ _).mp (of_decide_eq_true q).2 h2)]
    · rw [if_neg h2, if_pos (decide_eq_true ⟨(nlt_iff_le _ _).mp h1, (nlt_iff_le _ _).mp h2⟩)]
theorem p_readL (hM : M ≤ 60) : ∀ (r q c m : Nat) (v : Int32), c + r = L → q ≤ M → L ≤ 3 → r < m → F_X5_readNumber_4 fl (nI M) TX m (nI q) 0 (nI L) v (nI c) = some ((rn M TX r q v).1, nI (rn M TX r q v).2, if c + ((rn M TX r q v).2 - q) = 0 then 1 else 0) := by
  intro r
  induction r with
  | zero =>
    intro q c m v hc hq hL hm
    obtain ⟨m, rfl⟩ : ∃ z, m = z + 1 := ⟨m - 1, by omega⟩
    rw [F_X5_readNumber_4, if_pos rfl, if_pos ((nI_leI (by omega) (by omega)).mpr (by omega))]
    by_cases c0 : c = 0
    · subst c0; rw [if_pos nI_0, if_pos (by show 0 + (q - q) = 0; omega)]; rfl
    · rw [if_neg (nI_ne0 (by omega) (by omega)), if_neg (by omega)]; rfl
  | succ r ih =>
    intro q c m v hc hq hL hm
    obtain ⟨m, rfl⟩ : ∃ z, m = z + 1 := ⟨m - 1, by omega⟩
    rw [F_X5_readNumber_4, if_pos rfl, if_neg (fun z => by have := (nI_leI (by omega) (by omega)).mp z; omega), p_look hM (by omega), bn_e, p_isDigit, bn_e, rn]
    by_cases d : dig M TX q = true
    · obtain ⟨d1, d2⟩ := of_decide_eq_true d
      rw [if_pos d1, if_pos d2, if_neg (show ¬ (1 : Int32) = 0 by decide), bn_e, if_pos d, nI_1, nI_1, ih (q + 1) (c + 1) m _ (by omega) (by omega) hL (by omega)]
      have := rn_le (M := M) (TX := TX) r (q + 1) (((10 : Int32) * v + TX q) - (48 : Int32)) (by omega)
      rw [if_neg (by omega), if_neg (by omega)]
    · have d2 : ¬ inR 48 57 (if q < M then TX q else -1) = true := fun z => by
        by_cases e : q < M
        · rw [if_pos e] at z; exact d (decide_eq_true ⟨e, z⟩)
        · rw [if_neg e] at z; exact absurd z (by decide)
      rw [if_neg d2, if_pos (show (0 : Int32) = 0 from rfl), if_neg d]
      by_cases c0 : c = 0
      · subst c0; rw [if_pos nI_0, if_pos (by show 0 + (q - q) = 0; omega)]
      · rw [if_neg (nI_ne0 (by omega) (by omega)), if_neg (by omega)]
theorem p_read (hf : 2000 ≤ fl) (hM : M ≤ 60) (h : q ≤ M) (hL : L ≤ 3) : F_X5_readNumber fl (nI M) (nI q) 0 TX (nI L) = some (nv M TX L q, nI (nq M TX L q), if nq M TX L q = q then 1 else 0) := by
  have e := p_readL (fl := fl) (TX := TX) hM L q 0 fl 0 (by omega) h hL (by omega)
  have h2 := nq_le (TX := TX) (L := L) h
  unfold F_X5_readNumber
  rw [nI_0] at e
  rw [e]
  show some (nv M TX L q, nI (nq M TX L q), if 0 + (nq M TX L q - q) = 0 then (1 : Int32) else 0) = _
  by_cases c : nq M TX L q = q
  · rw [if_pos (by omega), if_pos c]
  · rw [if_neg (by omega), if_neg c]
theorem p_read1 (hf : 2000 ≤ fl) {x : Int32} : F_X5_readNumber fl x at' 1 TX c = some (0, at', 1) := by
  obtain ⟨n, rfl⟩ : ∃ z, fl = z + 1 := ⟨fl - 1, by omega⟩
  unfold F_X5_readNumber
  rw [F_X5_readNumber_4, if_neg (by decide), if_pos rfl]
theorem upd_upd {f : Nat → Int32} {k : Nat} {x y : Int32} : upd (upd f k x) k y = upd f k y := by
  funext j
  by_cases e : j = k
  · subst e; rw [pk_us, pk_us]
  · rw [pk_un e, pk_un e, pk_un e]
theorem q_numL (hM : M ≤ 60) (hi : i < 3) : ∀ (r q c m : Nat) (told : Nat → Int32), c + r = L → q ≤ M → L ≤ 3 → r < m → F_X8_number_9 fl (nI M) TX m (nI q) told (nI i) (nI L) (nI c) = some ((if c + ((rn M TX r q (told i)).2 - q) = 0 then 0 else 1), nI (rn M TX r q (told i)).2, upd told i (rn M TX r q (told i)).1) := by
  intro r
  induction r with
  | zero =>
    intro q c m told hc hq hL hm
    obtain ⟨m, rfl⟩ : ∃ z, m = z + 1 := ⟨m - 1, by omega⟩
    rw [F_X8_number_9, if_pos ((nI_leI (by omega) (by omega)).mpr (by omega))]
    show _ = some ((if c + (q - q) = 0 then (0 : Int32) else 1), nI q, upd told i (told i))
    rw [upd_id]
    by_cases c0 : c = 0
    · subst c0; rw [if_pos (by decide), if_pos (by omega)]
    · rw [if_neg (fun z => by have := (nI_leI (b := 0) (by omega) (by omega)).mp z; omega), if_neg (by omega)]
  | succ r ih =>
    intro q c m told hc hq hL hm
    obtain ⟨m, rfl⟩ : ∃ z, m = z + 1 := ⟨m - 1, by omega⟩
    rw [F_X8_number_9, if_neg (fun z => by have := (nI_leI (by omega) (by omega)).mp z; omega), rn]
    have stop : (if nI c ≤ 0 then some ((0 : Int32), nI q, told) else some (1, nI q, told)) = some ((if c + (q - q) = 0 then (0 : Int32) else 1), nI q, upd told i (told i)) := by
      rw [upd_id]
      by_cases c0 : c = 0
      · subst c0; rw [if_pos (by decide), if_pos (by omega)]
      · rw [if_neg (fun z => by have := (nI_leI (b := 0) (by omega) (by omega)).mp z; omega), if_neg (by omega)]
    by_cases e : q < M
    · rw [if_neg (fun z => by have := (nI_leI (by omega) (by omega)).mp z; omega), g_lit (by omega) (by decide), nI_clamp (by omega), q_in, bn_e]
      by_cases d2 : inR 48 57 (TX q) = true
      · have d : dig M TX q = true := decide_eq_true ⟨e, d2⟩
        rw [if_pos d2, if_neg (show ¬ (1 : Int32) = 0 by decide), g_lit hi (by decide), g_lit (by omega) (by decide), g_lit hi (by decide), nI_clamp (by omega), if_pos d, nI_1, nI_1, ih (q + 1) (c + 1) m _ (by omega) (by omega) hL (by omega), pk_us, upd_upd]
        have := rn_le (M := M) (TX := TX) r (q + 1) (((10 : Int32) * told i + TX q) - (48 : Int32)) (by omega)
        rw [if_neg (by omega), if_neg (by omega)]
      · have d : ¬ dig M TX q = true := fun z => d2 (of_decide_eq_true z).2
        rw [if_neg d2, if_pos (show (0 : Int32) = 0 from rfl), if_neg d]
        exact stop
    · have d : ¬ dig M TX q = true := fun z => e (of_decide_eq_true z).1
      rw [if_pos ((nI_leI (by omega) (by omega)).mpr (by omega)), if_neg d]
      exact stop
theorem q_number (hf : 2000 ≤ fl) (hM : M ≤ 60) (h : q ≤ M) (hL : L ≤ 3) (hi : i < 3) : F_X8_number fl (nI M) (nI q) TX told (nI i) (nI L) = some ((if nq M TX L q = q then 0 else 1), nI (nq M TX L q), upd told i (nv M TX L q)) := by
  have e := q_numL (fl := fl) (TX := TX) hM hi L q 0 fl (upd told i 0) (by omega) h hL (by omega)
  have h2 := nq_le (TX := TX) (L := L) h
  rw [pk_us, upd_upd, nI_0] at e
  unfold F_X8_number
  rw [g_lit hi (by decide), nI_clamp (by omega), e]
  show some ((if 0 + (nq M TX L q - q) = 0 then (0 : Int32) else 1), nI (nq M TX L q), upd told i (nv M TX L q)) = _
  by_cases c : nq M TX L q = q
  · rw [if_pos (by omega), if_pos c]
  · rw [if_neg (by omega), if_neg c]
/-- a sign stands at q -/
def hs (M : Nat) (TX : Nat → Int32) (q : Nat) (c : Int32) : Bool := decide (q < M ∧ TX q = c)
theorem p_pass (hM : M ≤ 60) (h : q ≤ M) (hc : c ≠ -1) : F_X5_pass fl (nI M) (nI q) 0 TX c = some (if hs M TX q c = true then (1, nI (q + 1), 0) else (0, nI q, 1)) := by
  unfold F_X5_pass
  rw [if_pos rfl, p_look hM (by omega), bn_e]
  by_cases d : hs M TX q c = true
  · obtain ⟨d1, d2⟩ := of_decide_eq_true d
    rw [if_pos d1, if_pos d2, if_pos d, nI_1]
  · have d2 : ¬ (if q < M then TX q else -1) = c := fun z => by
      by_cases e : q < M
      · rw [if_pos e] at z; exact d (decide_eq_true ⟨e, z⟩)
      · rw [if_neg e] at z; exact hc z.symm
    rw [if_neg d2, if_neg d]
theorem p_pass1 {x : Int32} : F_X5_pass fl x at' 1 TX c = some (0, at', 1) := by
  unfold F_X5_pass; rw [if_neg (by decide)]
theorem q_sign (hM : M ≤ 60) (h : q ≤ M) : F_X8_sign fl (nI M) (nI q) TX c = some (if hs M TX q c = true then (1, nI (q + 1)) else (0, nI q)) := by
  unfold F_X8_sign
  by_cases e : q = M
  · subst e
    rw [if_pos rfl, if_neg (fun z => by have := (of_decide_eq_true z).1; omega)]
  · rw [if_neg (fun z => e ((nI_eq (by omega) (by omega)).mp z)), g_lit (by omega) (by decide), nI_clamp (by omega)]
    by_cases d : TX q = c
    · rw [if_pos d, if_pos (show hs M TX q c = true from decide_eq_true ⟨by omega, d⟩), nI_1]
    · rw [if_neg d, if_neg (fun z => d (of_decide_eq_true z).2)]
