/-! the law's body: words -/
def lk (j : Nat) : Int32 := if j < 24 then nI (23 - j) else -1
theorem lk_1 {j : Nat} (h : j < 24) : nI (23 - j) + -1 = lk (j + 1) := by
  have g : ∀ j : Fin 24, nI (23 - j.val) + -1 = lk (j.val + 1) := by decide +kernel
  exact g ⟨j, h⟩
theorem m40 {j : Nat} (h : j < 24) : (40 : Int32) * nI (23 - j) = nI (40 * (23 - j)) := by
  have g : ∀ j : Fin 24, (40 : Int32) * nI (23 - j.val) = nI (40 * (23 - j.val)) := by decide +kernel
  exact g ⟨j, h⟩
theorem m5 {j : Nat} (h : j < 24) : (5 : Int32) - (nI (23 - j) - nI (23 - j) / 5 * 5) = nI (5 - (23 - j) % 5) := by
  have g : ∀ j : Fin 24, (5 : Int32) - (nI (23 - j.val) - nI (23 - j.val) / 5 * 5) = nI (5 - (23 - j.val) % 5) := by decide +kernel
  exact g ⟨j, h⟩
theorem cm_A {y : Nat → ClassId} {at_ : Nat} {q : Lad} {us : List Lad} {sv : Option Lad} {rs dt ix : Int32} {tx : Nat → Int32} {NN : Nat} {TT : Nat → Nat} {r : Int32} {V : va_W} (h65 : tx 0 = 65) (h : (∃ x, ps 60 tx 61 0 = some x ∧ r = -1001 ∧ Ob y at_ q us sv rs dt ix (nI x) 0 tx NN TT V) ∨ (ps 60 tx 61 0 = none ∧ ∃ v rs2 dt2 ix2, CTX q rs dt ix 60 tx v rs2 dt2 ix2 ∧ ((v = -1 ∧ r = -1002 ∧ Ob y at_ q us sv rs2 dt2 ix2 (-1) 0 tx NN TT V) ∨ (r = v ∧ 0 ≤ v ∧ ∃ q2, GL q2 ∧ Ob y at_ q2 (push q us) sv rs2 dt2 ix2 (-1) 0 tx NN TT V)))) : r = -1001 ∧ Ob y at_ q us sv rs dt ix (nI 0) 0 tx NN TT V := by
  have e := ps_A h65
  rcases h with ⟨x, h1, h2, h3⟩ | ⟨h1, -⟩
  · obtain rfl : x = 0 := Option.some.inj (h1.symm.trans e)
    exact ⟨h2, h3⟩
  · exact absurd (h1.symm.trans e) (by simp)
theorem upd65 {tx : Nat → Int32} {j : Nat} (h : 0 < j → tx 0 = 65) : upd tx j (vp_nar .char (((((65 : Int32)) + (nI j)).toUInt32 % 65536).toInt32)) 0 = 65 := by
  unfold upd
  by_cases e : 0 = j
  · subst e; rw [if_pos rfl]; decide +kernel
  · rw [if_neg e]; exact h (by omega)
def nX7 (args : Array Value) (s : State) : Prop := (Cond.classLink RL 8 RX7).before args s = true ∧ (Cond.instantiable RX7 11).before args s = true ∧ (Cond.initialized RX7).before args s = true ∧ (Cond.methodLink RL 319 yX7_init).before args s = true ∧ (Cond.instanceMethod yX7_init).before args s = true ∧ ∀ w ∈ u_ws RX7 TX7 11, w.before args s = true
theorem va_P_nil {D : va_G} {H : Heap} : va_P D vwCl [] H := fun k q h => by simp at h
theorem va_D_nil {A : Nat → Prop} : va_D A [] := ⟨fun i j p q h => by simp at h, fun k q h => by simp at h⟩
theorem LL_0 {ks ws ts : Nat → Int32} : LL (0 : Int32) (0 : Int32) ks ws ts (1 : Int32) (0 : Int32) (0 : Int32) (upd (fun _ => 0) (1 : Int32).toNatClampNeg (1 : Int32)) := ⟨0, nI_0.symm, ⟨Nat.zero_le _, fun _ _ _ h => absurd h (Nat.not_lt_zero _), fun _ h => absurd h (Nat.not_lt_zero _), fun _ h => absurd h (Nat.not_lt_zero _), 0, by decide, nI_0.symm⟩, ⟨rfl, rfl, rfl, rfl, rfl, fun _ h => absurd h (Nat.not_lt_zero _)⟩⟩
theorem GL_0 : GL lad0 := by
  have h := GL_i (z := 0) (hid := 0) (ks := fun _ => 0) (ws := fun _ => 0) (ts := fun _ => 0) (cn := 1) (ct' := 0) (ch := 0) LL_0 (fun j hj => absurd hj (by show ¬ j < (0 : Int32).toNatClampNeg; rw [show (0 : Int32).toNatClampNeg = 0 by decide]; omega))
  have e : NRM 0 0 (fun _ => 0) (fun _ => 0) (fun _ => 0) 1 0 0 = lad0 := by
    show ((0 : Int32), (0 : Int32), cut 0 (fun _ => 0), cut 0 (fun _ => 0), cut 0 (fun _ => 0), (1 : Int32), (0 : Int32), (0 : Int32)) = lad0
    rw [cut_z]; rfl
  rw [e] at h; exact h
theorem Ob_new {y : Nat → ClassId} {at_ : Nat} {u : Nat → Nat} : Ob y at_ lad0 [] none 0 0 0 (-1) 0 (fun _ => 0) 0 (fun _ => 0) (w1_X7_init y at_ u) := by
  have e : NRM 0 0 (fun _ => 0) (fun _ => 0) (fun _ => 0) 1 0 0 = lad0 := by
    show ((0 : Int32), (0 : Int32), cut 0 (fun _ => 0), cut 0 (fun _ => 0), cut 0 (fun _ => 0), (1 : Int32), (0 : Int32), (0 : Int32)) = lad0
    rw [cut_z]; rfl
  exact ⟨u, u 63, 16, 0, fun _ => 0, 0, 0, 0, fun _ => 0, fun _ => 0, fun _ => 0, 1, 0, 0, -1, 0, 0, 0, 0, 0, 116, 0, 0, 1, 0, 0, 0, 0, fun _ _ => 0, fun _ _ => 0, fun _ _ => 0, fun _ => 0, fun _ => 0, fun _ => 1, fun _ => 0, fun _ => 0, 0, 0, fun _ => 0, fun _ => 0, fun _ => 0, 1, 0, 0, 0, 0, fun _ => 0, fun _ => 0, fun _ => 0, 1, 0, 0, rfl, ⟨_, LL_0⟩, e, GL_0, ⟨0, by decide, by decide, nI_0.symm, nI_0.symm, fun s h => absurd h (Nat.not_lt_zero s), fun s h => absurd h (Nat.not_lt_zero s), fun q h => absurd h List.not_mem_nil⟩, Or.inl ⟨rfl, rfl⟩, by decide, fun j h => absurd h (Nat.not_lt_zero j), by decide, by decide, by decide, fun j h => absurd h (Nat.not_lt_zero j), sb_fit0⟩
theorem Ob_us {y : Nat → ClassId} {at_ : Nat} {q : Lad} {us : List Lad} {sv : Option Lad} {rs dt ix lf : Int32} {M : Nat} {tx : Nat → Int32} {NN : Nat} {TT : Nat → Nat} {V : va_W} (h : Ob y at_ q us sv rs dt ix lf M tx NN TT V) : us.length ≤ 8 := by
  obtain ⟨u, v, mm, ml, bb, x1, x2, x3, x4, x5, x6, x7, x8, x9, x10, x11, x12, x13, x14, x15, x16, x17, x18, x19, x20, x21, x22, x23, x24, x25, x26, x27, x28, x29, x30, x31, x32, x33, x34, x35, x36, x37, x38, x39, x40, x41, x42, x43, x44, x45, x46, x47, rfl, hR⟩ := h
  obtain ⟨p, hp, -⟩ := hR.2.2.2.1
  exact hp
theorem take_push {α : Type} (q : α) (qs us0 : List α) : (q :: (qs ++ us0).take 8).take 8 = ((q :: qs) ++ us0).take 8 := by
  rw [List.cons_append, List.take_succ_cons, List.take_succ_cons, List.take_take]
  rfl
theorem upd_ask {qs : List Lad} {f : Nat → Int64} {q : Lad} (hf : ∀ k, k < qs.length → f k = askV (qs.getD (qs.length - 1 - k) lad0)) : ∀ k, k < (q :: qs).length → vp_updL f qs.length (askV q) k = askV ((q :: qs).getD ((q :: qs).length - 1 - k) lad0) := by
  intro k hk
  have hk : k < qs.length + 1 := hk
  unfold vp_updL
  by_cases e : k = qs.length
  · subst e
    rw [if_pos rfl, show (q :: qs).length - 1 - qs.length = 0 by show qs.length + 1 - 1 - qs.length = 0; omega]
    rfl
  · rw [if_neg e, hf k (by omega), show (q :: qs).length - 1 - k = (qs.length - 1 - k) + 1 by show qs.length + 1 - 1 - k = _; omega]
    rfl
theorem mn8 {n : Nat} (h : n ≤ 10) : (if nI n < 8 then nI n else 8) = nI (min 8 n) := by
  have g : ∀ n : Fin 11, (if nI n.val < 8 then nI n.val else 8) = nI (min 8 n.val) := by decide +kernel
  exact g ⟨n, by omega⟩
theorem gt_1 {a b : Nat} (h : a = b) (hb : b ≤ 8) : nI a < nI (b + 1) := by
  subst h
  exact (nI_ltI (a := a) (b := a + 1) (by omega) (by omega)).mpr (by omega)
theorem ngt_1 {a b : Nat} (h : b + 1 ≤ a) (ha : a ≤ 8) : ¬ nI a < nI (b + 1) := fun z => by
  have := (nI_ltI (a := a) (b := b + 1) (by omega) (by omega)).mp z
  omega
theorem us_ne {qs us0 us : List Lad} {j : Nat} (hus : us = ((qs ++ us0).take 8).drop j) (hj : j < min 8 qs.length) : ¬ us = [] := fun z => by
  have : us.length = 0 := by rw [z]; rfl
  rw [hus, List.length_drop, List.length_take, List.length_append] at this
  omega
theorem us_cons {qs us0 us vs : List Lad} {q2 : Lad} {j : Nat} (hus : us = ((qs ++ us0).take 8).drop j) (hj : j < min 8 qs.length) (he : us = q2 :: vs) : q2 = qs.getD j lad0 ∧ vs = ((qs ++ us0).take 8).drop (j + 1) ∧ min 8 qs.length - (j + 1) ≤ vs.length ∧ vs.length ≤ 8 - (j + 1) := by
  have h1 : ((qs ++ us0).take 8).drop j = q2 :: vs := hus.symm.trans he
  have hl : j < ((qs ++ us0).take 8).length := by rw [List.length_take, List.length_append]; omega
  rw [List.drop_eq_getElem_cons hl] at h1
  obtain ⟨h2, h3⟩ := List.cons.inj h1
  have hl3 : vs.length = ((qs ++ us0).take 8).length - (j + 1) := by rw [← h3, List.length_drop]
  rw [List.length_take, List.length_append] at hl3
  refine ⟨?_, h3.symm, by omega, by omega⟩
  rw [← h2, List.getElem_take, List.getElem_append_left (by omega), List.getD_eq_getElem?_getD, List.getElem?_eq_getElem (by omega)]
  rfl
theorem ngt_2 {a j : Nat} (h : a ≤ 8 - (j + 1)) : ¬ nI (8 - (j + 1)) < nI a := nI_nlt h (by omega)
theorem un_ask {qs : List Lad} {f : Nat → Int64} {q2 : Lad} {j : Nat} (hf : ∀ k, k < qs.length → f k = askV (qs.getD (qs.length - 1 - k) lad0)) (hq : q2 = qs.getD j lad0) (hj : j < min 8 qs.length) (hln : qs.length ≤ 10) : askV q2 = f (nI (qs.length - (j + 1))).toNatClampNeg := by
  rw [nI_clamp (by omega), hf _ (by omega), hq, show qs.length - 1 - (qs.length - (j + 1)) = j by omega]
