/-! what is kept -/
variable {fl n : Nat} {ks ws ts a b : Nat → Int32} {key lev hid cn ct' ch z : Int32}
theorem MR_a (h : MR n ks ws ts cn ct' ch hid a) (hn : n ≤ 24) (he : ∀ i, i < 77 → b i = a i) : MR n ks ws ts cn ct' ch hid b := by
  obtain ⟨e0, e1, e2, e3, e4, e5⟩ := h
  refine ⟨by rw [he 0 (by omega)]; exact e0, by rw [he 1 (by omega)]; exact e1, by rw [he 2 (by omega)]; exact e2, by rw [he 3 (by omega)]; exact e3, by rw [he 4 (by omega)]; exact e4, fun j hj => ?_⟩
  rw [he _ (by omega), he _ (by omega), he _ (by omega)]
  exact e5 j hj
theorem LL_a (h : LL z hid ks ws ts cn ct' ch a) (he : ∀ i, i < 77 → b i = a i) : LL z hid ks ws ts cn ct' ch b := by
  obtain ⟨n, h1, h2, h3⟩ := h; exact ⟨n, h1, h2, MR_a h3 h2.1 he⟩
theorem LL_c (h : LL z hid ks ws ts cn ct' ch a) {ks' ws' ts' : Nat → Int32} (e1 : ∀ i, i < 24 → ks' i = ks i) (e2 : ∀ i, i < 24 → ws' i = ws i) (e3 : ∀ i, i < 24 → ts' i = ts i) : LL z hid ks' ws' ts' cn ct' ch a := by
  obtain ⟨n, h1, ⟨l1, l2, l3, l4, l5⟩, m0, m1, m2, m3, m4, m5⟩ := h
  refine ⟨n, h1, ⟨l1, fun i j hij hj => ?_, fun j hj => ?_, fun j hj => ?_, l5⟩, m0, m1, m2, m3, m4, fun j hj => ?_⟩
  · rw [e1 i (by omega), e1 j (by omega)]; exact l2 i j hij hj
  · rw [e3 j (by omega)]; exact l3 j hj
  · rw [e1 j (by omega)]; exact l4 j hj
  · rw [e1 j (by omega), e2 j (by omega), e3 j (by omega)]; exact m5 j hj
theorem cp24 {f g : Nat → Int32} {i : Nat} (h : i < 24) : va_cpy f g (0 : Int32).toNatClampNeg (0 : Int32).toNatClampNeg (24 : Int32).toNatClampNeg i = f i := by
  show va_cpy f g 0 0 24 i = f i
  unfold va_cpy
  rw [if_pos (by omega), show 0 + (i - 0) = i by omega]
/-- copying a ladder -/
theorem p_copy (h : LL z hid ks ws ts cn ct' ch a) {s1 s2 s6 s7 s8 : Int32} {s3 s4 s5 : Nat → Int32} : ∃ ks' ws' ts', F_X3_copyFrom fl s1 s2 s3 s4 s5 s6 s7 s8 z hid ks ws ts cn ct' ch = some (z, hid, ks', ws', ts', cn, ct', ch) ∧ LL z hid ks' ws' ts' cn ct' ch a := by
  refine ⟨_, _, _, rfl, LL_c h (fun i hi => cp24 hi) (fun i hi => cp24 hi) (fun i hi => cp24 hi)⟩
/-- j numbers copied -/
def cpy (f g : Nat → Int32) (o d j : Nat) : Nat → Int32 := fun i => if d ≤ i ∧ i < d + j then f (o + (i - d)) else g i
theorem cpy_0 (f g : Nat → Int32) (o d : Nat) : cpy f g o d 0 = g := by
  funext i; exact if_neg (by omega)
theorem cpy_s (f g : Nat → Int32) (o d j : Nat) : upd (cpy f g o d j) (d + j) (f (o + j)) = cpy f g o d (j + 1) := by
  funext i
  by_cases e : i = d + j
  · subst e
    rw [pk_us]
    show _ = (if _ then _ else _)
    rw [if_pos (by omega), show o + j = o + (d + j - d) by omega]
  · rw [pk_un e]
    show (if _ then _ else _) = (if _ then _ else _)
    by_cases c : d ≤ i ∧ i < d + j
    · rw [if_pos c, if_pos (by omega)]
    · rw [if_neg c, if_neg (by omega)]
theorem cpy_in {f g : Nat → Int32} {o d j i : Nat} (h : i < j) : cpy f g o d j (d + i) = f (o + i) := by
  show (if _ then _ else _) = _
  rw [if_pos (by omega), show o + (d + i - d) = o + i by omega]
theorem cpy_lo {f g : Nat → Int32} {o d j i : Nat} (h : i < d) : cpy f g o d j i = g i := if_neg (by omega)
theorem l616 : (616 : Int32) = nI 616 := rfl
theorem l539 : (539 : Int32) = nI 539 := rfl
theorem g616 {α : Type} {k : Nat} {x : Option α} (h : k < 616) : gi (nI k) 616 x = x := g_lit h (by decide)
theorem q_triesL {tr : Nat → Int32} {th : Int32} : ∀ (d j m : Nat), j + d = 77 → d < m → F_X8_tries_7 fl a m th (cpy a tr 0 0 j) (nI j) = some (th, cpy a tr 0 0 77) := by
  intro d
  induction d with
  | zero =>
    intro j m hj hm
    obtain ⟨m, rfl⟩ : ∃ q, m = q + 1 := ⟨m - 1, by omega⟩
    obtain rfl : j = 77 := by omega
    rw [F_X8_tries_7, if_pos (by decide)]
  | succ d ih =>
    intro j m hj hm
    obtain ⟨m, rfl⟩ : ∃ q, m = q + 1 := ⟨m - 1, by omega⟩
    rw [F_X8_tries_7, l77, if_neg (fun q => by have := (nI_leI (by omega) (by omega)).mp q; omega), gx (by omega), gx (by omega), nI_clamp (by omega), nI_1]
    have e := cpy_s a tr 0 0 j
    rw [Nat.zero_add] at e
    rw [e]
    exact ih (j + 1) m (by omega) (by omega)
theorem q_tries {tr : Nat → Int32} {th : Int32} (hf : 2000 ≤ fl) : F_X8_tries fl th a tr = some (0, cpy a tr 0 0 77) := by
  have e := q_triesL (fl := fl) (a := a) (tr := tr) (th := 0) 77 0 fl (by omega) (by omega)
  rw [cpy_0] at e; exact e
theorem q_backL {tr now : Nat → Int32} : ∀ (d j m : Nat), j + d = 77 → d < m → F_X8_comesBack_2 fl tr m (cpy tr now 0 0 j) (nI j) = some (cpy tr now 0 0 77) := by
  intro d
  induction d with
  | zero =>
    intro j m hj hm
    obtain ⟨m, rfl⟩ : ∃ q, m = q + 1 := ⟨m - 1, by omega⟩
    obtain rfl : j = 77 := by omega
    rw [F_X8_comesBack_2, if_pos (by decide)]
  | succ d ih =>
    intro j m hj hm
    obtain ⟨m, rfl⟩ : ∃ q, m = q + 1 := ⟨m - 1, by omega⟩
    rw [F_X8_comesBack_2, l77, if_neg (fun q => by have := (nI_leI (by omega) (by omega)).mp q; omega), gx (by omega), gx (by omega), nI_clamp (by omega), nI_1]
    have e := cpy_s tr now 0 0 j
    rw [Nat.zero_add] at e
    rw [e]
    exact ih (j + 1) m (by omega) (by omega)
theorem q_back {tr now : Nat → Int32} (hf : 2000 ≤ fl) : F_X8_comesBack fl now tr = some (cpy tr now 0 0 77) := by
  have e := q_backL (fl := fl) (tr := tr) (now := now) 77 0 fl (by omega) (by omega)
  rw [cpy_0] at e; exact e
theorem q_saveL {sv : Nat → Int32} {th i : Int32} : ∀ (d j m : Nat), j + d = 77 → d < m → F_X8_save_12 fl a m i th (cpy a sv 0 0 j) (nI j) = some (a 0, i, th, cpy a sv 0 0 77) := by
  intro d
  induction d with
  | zero =>
    intro j m hj hm
    obtain ⟨m, rfl⟩ : ∃ q, m = q + 1 := ⟨m - 1, by omega⟩
    obtain rfl : j = 77 := by omega
    rw [F_X8_save_12, if_pos (by decide), gl0]; rfl
  | succ d ih =>
    intro j m hj hm
    obtain ⟨m, rfl⟩ : ∃ q, m = q + 1 := ⟨m - 1, by omega⟩
    rw [F_X8_save_12, l77, if_neg (fun q => by have := (nI_leI (by omega) (by omega)).mp q; omega), gx (by omega), gx (by omega), nI_clamp (by omega), nI_1]
    have e := cpy_s a sv 0 0 j
    rw [Nat.zero_add] at e
    rw [e]
    exact ih (j + 1) m (by omega) (by omega)
theorem q_restL {sv now : Nat → Int32} {un th i : Int32} : ∀ (d j m : Nat), j + d = 77 → d < m → F_X8_restore_20 fl i sv m un th (cpy sv now 0 0 j) (nI j) = some (sv 0, 0, th, cpy sv now 0 0 77) := by
  intro d
  induction d with
  | zero =>
    intro j m hj hm
    obtain ⟨m, rfl⟩ : ∃ q, m = q + 1 := ⟨m - 1, by omega⟩
    obtain rfl : j = 77 := by omega
    rw [F_X8_restore_20, if_pos (by decide), gl0]; rfl
  | succ d ih =>
    intro j m hj hm
    obtain ⟨m, rfl⟩ : ∃ q, m = q + 1 := ⟨m - 1, by omega⟩
    rw [F_X8_restore_20, l77, if_neg (fun q => by have := (nI_leI (by omega) (by omega)).mp q; omega), gx (by omega), gx (by omega), nI_clamp (by omega), nI_1]
    have e := cpy_s sv now 0 0 j
    rw [Nat.zero_add] at e
    rw [e]
    exact ih (j + 1) m (by omega) (by omega)
theorem ix77 (u j : Nat) : ((77 : Int32) * nI u) + nI j = nI (77 * u + j) := by rw [l77, pk_mul, nI_add]
theorem q_undoL {kp now : Nat → Int32} {u : Nat} {th : Int32} (hu : u < 8) : ∀ (d j m : Nat), j + d = 77 → d < m → F_X8_undo_30 fl kp m (nI u) th (cpy kp now (77 * u) 0 j) (nI j) = some (nI u, nI u, th, cpy kp now (77 * u) 0 77) := by
  intro d
  induction d with
  | zero =>
    intro j m hj hm
    obtain ⟨m, rfl⟩ : ∃ q, m = q + 1 := ⟨m - 1, by omega⟩
    obtain rfl : j = 77 := by omega
    rw [F_X8_undo_30, if_pos (by decide)]
  | succ d ih =>
    intro j m hj hm
    obtain ⟨m, rfl⟩ : ∃ q, m = q + 1 := ⟨m - 1, by omega⟩
    rw [F_X8_undo_30, if_neg (fun q => by have := (nI_leI (a := 77) (by omega) (by omega)).mp q; omega), ix77, g616 (by omega), gx (by omega), nI_clamp (by omega), nI_clamp (by omega), nI_1]
    have e := cpy_s kp now (77 * u) 0 j
    rw [Nat.zero_add] at e
    rw [e]
    exact ih (j + 1) m (by omega) (by omega)
theorem q_keepL {kp tr : Nat → Int32} {u : Nat} {v : Int32} (hu : u < 8) : ∀ (d j m : Nat), j + d = 77 → d < m → F_X8_keeps_51 fl tr m (nI u) (cpy tr kp 0 (77 * u) j) v (nI j) = some (v, nI (u + 1), cpy tr kp 0 (77 * u) 77) := by
  intro d
  induction d with
  | zero =>
    intro j m hj hm
    obtain ⟨m, rfl⟩ : ∃ q, m = q + 1 := ⟨m - 1, by omega⟩
    obtain rfl : j = 77 := by omega
    rw [F_X8_keeps_51, if_pos (by decide), nI_1]
  | succ d ih =>
    intro j m hj hm
    obtain ⟨m, rfl⟩ : ∃ q, m = q + 1 := ⟨m - 1, by omega⟩
    rw [F_X8_keeps_51, if_neg (fun q => by have := (nI_leI (a := 77) (by omega) (by omega)).mp q; omega), ix77, gx (by omega), g616 (by omega), nI_clamp (by omega), nI_clamp (by omega), nI_1]
    have e := cpy_s tr kp 0 (77 * u) j
    rw [Nat.zero_add] at e
    rw [e]
    exact ih (j + 1) m (by omega) (by omega)
theorem q_keep {kp tr : Nat → Int32} {u : Nat} {v : Int32} (hf : 2000 ≤ fl) (hu : u < 8) : F_X8_keeps_51 fl tr fl (nI u) kp v 0 = some (v, nI (u + 1), cpy tr kp 0 (77 * u) 77) := by
  have e := q_keepL (fl := fl) (kp := kp) (tr := tr) (v := v) hu 77 0 fl (by omega) (by omega)
  rw [cpy_0] at e; exact e
theorem q_shiftL {kp tr : Nat → Int32} {v : Int32} (hf : 2000 ≤ fl) : ∀ (d j m : Nat), j + d = 539 → d < m → F_X8_keeps_11 fl tr m (nI 8) (cpy kp kp 77 0 j) v (nI j) = some (v, nI 8, cpy tr (cpy kp kp 77 0 539) 0 539 77) := by
  intro d
  induction d with
  | zero =>
    intro j m hj hm
    obtain ⟨m, rfl⟩ : ∃ q, m = q + 1 := ⟨m - 1, by omega⟩
    obtain rfl : j = 539 := by omega
    rw [F_X8_keeps_11, if_pos (by decide), show nI 8 - 1 = nI 7 from pk_sub (b := 1) (by omega)]
    exact q_keep hf (by omega)
  | succ d ih =>
    intro j m hj hm
    obtain ⟨m, rfl⟩ : ∃ q, m = q + 1 := ⟨m - 1, by omega⟩
    rw [F_X8_keeps_11, l539, if_neg (fun q => by have := (nI_leI (by omega) (by omega)).mp q; omega), l77, nI_add, g616 (by omega), g616 (by omega), nI_clamp (by omega), nI_clamp (by omega), nI_1]
    have e := cpy_s kp kp 77 0 j
    rw [Nat.zero_add] at e
    have e2 : cpy kp kp 77 0 j (77 + j) = kp (77 + j) := if_neg (by omega)
    rw [e2, e]
    exact ih (j + 1) m (by omega) (by omega)
/-- what a keeping does -/
theorem q_keeps {kp tr : Nat → Int32} {m : Nat} {v : Int32} (hf : 2000 ≤ fl) (hm : m ≤ 8) : F_X8_keeps fl (nI m) tr kp v = some (if m = 8 then (v, nI 8, cpy tr (cpy kp kp 77 0 539) 0 539 77) else (v, nI (m + 1), cpy tr kp 0 (77 * m) 77)) := by
  unfold F_X8_keeps
  by_cases c : m = 8
  · subst c
    have e := q_shiftL (fl := fl) (kp := kp) (tr := tr) (v := v) hf 539 0 fl (by omega) (by omega)
    rw [cpy_0] at e
    rw [if_pos (show nI 8 = (8 : Int32) from rfl), if_pos (show 8 = 8 from rfl)]; exact e
  · rw [if_neg (show ¬ nI m = (8 : Int32) from fun q => c ((nI_eq (a := m) (b := 8) (by omega) (by omega)).mp q)), if_neg c]
    exact q_keep hf (by omega)
