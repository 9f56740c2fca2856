/-! commands on a level -/
variable {fl n : Nat} {ks ws ts a : Nat → Int32} {key lev hid cn ct' ch : Int32} {k w we ru rs dt ix an x3 d0 sg : Int32}
/-- the bit of a level -/
def bit (lev : Int32) : Int32 := (1 : Int32) <<< (lev &&& 31)
theorem hide_f : ∀ (q : Fin 32) (k : Fin 5), 1 ≤ k.val → hb (nI q.val) (nI k.val) = false → nI q.val ||| bit (nI k.val) = nI q.val ^^^ bit (nI k.val) ∧ (nI q.val ^^^ bit (nI k.val)).toNatClampNeg < 32 ∧ nI q.val ^^^ bit (nI k.val) = nI (nI q.val ^^^ bit (nI k.val)).toNatClampNeg := by decide +kernel
theorem show_f : ∀ (q : Fin 32) (k : Fin 5), 1 ≤ k.val → hb (nI q.val) (nI k.val) = true → nI q.val &&& (bit (nI k.val) ^^^ (-1)) = nI q.val ^^^ bit (nI k.val) ∧ (nI q.val ^^^ bit (nI k.val)).toNatClampNeg < 32 ∧ nI q.val ^^^ bit (nI k.val) = nI (nI q.val ^^^ bit (nI k.val)).toNatClampNeg := by decide +kernel
theorem LI_h (hl : LI n ks ts hid) {x : Int32} (hx : ∃ q, q < 32 ∧ x = nI q) : LI n ks ts x := ⟨hl.1, hl.2.1, hl.2.2.1, hl.2.2.2.1, hx⟩
theorem p_level (hs : okC sg = true) : F_X0_againstLevel fl d0 hid sg k =
    (if inR 1 4 k = true then (if hb hid k = decide (sg = 102) then some (6, k) else some (0, d0)) else some (1, d0) : Option (Int32 × Int32)) := by
  unfold F_X0_againstLevel F_X4_number
  rw [bn_e, p_outside, bn_e]
  by_cases c1 : inR 1 4 k = true
  · rw [if_pos c1, if_pos c1, if_pos (show (0 : Int32) = 0 from rfl), p_isHidden, bn_e, okc hs, bn_e]
    by_cases c3 : sg = 102
    · rw [if_pos c3, decide_eq_true c3]
      by_cases c2 : hb hid k = true
      · rw [c2, if_pos rfl, if_pos rfl, if_pos rfl, if_neg (by decide)]; rfl
      · have c2 : hb hid k = false := by cases z : hb hid k with | true => exact absurd z c2 | false => rfl
        rw [c2, if_neg (show ¬ false = true by decide), if_neg (show ¬ (0 : Int32) = 1 by decide), if_pos rfl, if_neg (by decide)]
    · rw [if_neg c3, decide_eq_false c3]
      by_cases c2 : hb hid k = true
      · rw [c2, if_pos rfl, if_neg (show ¬ (1 : Int32) = 0 by decide), if_pos rfl, if_neg (by decide)]
      · have c2 : hb hid k = false := by cases z : hb hid k with | true => exact absurd z c2 | false => rfl
        rw [c2, if_neg (show ¬ false = true by decide), if_pos rfl, if_neg (show ¬ (1 : Int32) = 0 by decide), if_pos rfl]; rfl
  · rw [if_neg c1, if_neg c1, if_neg (show ¬ (1 : Int32) = 0 by decide)]
theorem q_puts (hn : n ≤ 24) (hf : 2000 ≤ fl) (h : MR n ks ws ts cn ct' ch hid a) {p2 : Bool} : F_X8_puts fl rs dt ix an a k (if p2 = true then 1 else 0) =
    (if inR 1 4 k = true then (if hb hid k = p2 then some (0, 6, k, 0, an, a) else some (1, rs, dt, ix, nI (ct (rg n ts k) n), upd a 4 (hid ^^^ bit k))) else some (0, 1, 0, 0, an, a) : Option (Int32 × Int32 × Int32 × Int32 × Int32 × (Nat → Int32))) := by
  unfold F_X8_puts F_X8_refuses F_X8_does
  rw [q_in, bn_e]
  by_cases c1 : inR 1 4 k = true
  · rw [if_pos c1, if_pos c1, if_neg (show ¬ (1 : Int32) = 0 by decide), q_isOut h, bn_e, bn4_e, gd_e okB0, gl4, gl4, c4, h.2.2.2.2.1]
    show (if (if hb hid k = true then (1 : Int32) else 0) = (if p2 = true then 1 else 0) then _ else bn (F_X8_sizeOf fl (upd a 4 (hid ^^^ bit k)) k) _) = _
    rw [q_sizeOf hn hf (MR_h h), bn_e, bn2_e, gd_e okB1]
    cases hb hid k <;> cases p2 <;> rfl
  · rw [if_neg c1, if_neg c1, if_pos (show (0 : Int32) = 0 from rfl), bn4_e, gd_e okB0]
theorem c_102 (hn : n ≤ 24) (hf : 2000 ≤ fl) : F_X0_carryOut fl (nI n) hid ks ws ts cn ct' ch 102 k we ru = some (nI (ct (rg n ts k) n), nI n, hid ||| bit k, ks, ws, ts, cn, ct', ch) := by
  unfold F_X0_carryOut F_X4_number F_X3_hide
  rw [bn_e, p_placeWith hn hf, bn_e, okc (by decide), bn_e, if_neg (by decide), if_neg (by decide), if_neg (by decide), if_neg (by decide), if_pos rfl, bn_e, bn_e, bn_e, p_foldersOn hn hf]; rfl
theorem c_114 (hn : n ≤ 24) (hf : 2000 ≤ fl) : F_X0_carryOut fl (nI n) hid ks ws ts cn ct' ch 114 k we ru = some (nI (ct (rg n ts k) n), nI n, hid &&& (bit k ^^^ (-1)), ks, ws, ts, cn, ct', ch) := by
  unfold F_X0_carryOut F_X4_number F_X3_show
  rw [bn_e, p_placeWith hn hf, bn_e, okc (by decide), bn_e, if_neg (by decide), if_neg (by decide), if_neg (by decide), if_neg (by decide), if_neg (by decide), if_pos rfl, bn_e, bn_e, bn_e, p_foldersOn hn hf]; rfl
/-- forgetting a level -/
theorem r_forget (hf : 2000 ≤ fl) (hl : LI n ks ts hid) (h : MR n ks ws ts cn ct' ch hid a) : CM fl n hid ks ws ts cn ct' ch 102 k we ru rs dt ix an a (F_X8_puts fl rs dt ix an a k 1) := by
  have hn := hl.1
  have e := q_puts (rs := rs) (dt := dt) (ix := ix) (an := an) (k := k) hn hf h (p2 := true)
  rw [if_pos rfl] at e
  unfold CM
  rw [e, e_102, p_level (by decide), c_102 hn hf, show decide ((102 : Int32) = 102) = true by decide]
  by_cases c1 : inR 1 4 k = true
  · rw [if_pos c1, if_pos c1]
    by_cases c2 : hb hid k = true
    · rw [if_pos c2, if_pos c2]
      exact Or.inl ⟨6, k, by decide, rfl, rfl⟩
    · rw [if_neg c2, if_neg c2]
      have c2 : hb hid k = false := by cases z : hb hid k with | true => exact absurd z c2 | false => rfl
      obtain ⟨kk, g1, g2, rfl⟩ := inR_n (lo := 1) (hi := 4) c1 (by decide) (by decide)
      obtain ⟨q, hq, he⟩ := hl.2.2.2.2
      obtain ⟨f1, f2, f3⟩ := hide_f ⟨q, hq⟩ ⟨kk, by omega⟩ g1 (by rw [← he]; exact c2)
      have f1 : hid ||| bit (nI kk) = hid ^^^ bit (nI kk) := by rw [he]; exact f1
      have f2 : (hid ^^^ bit (nI kk)).toNatClampNeg < 32 := by rw [he]; exact f2
      have f3 : hid ^^^ bit (nI kk) = nI (hid ^^^ bit (nI kk)).toNatClampNeg := by rw [he]; exact f3
      rw [f1]
      exact Or.inr ⟨0, _, nI n, _, ks, ws, ts, cn, ct', ch, _, rfl, rfl, rfl, n, rfl, LI_h hl ⟨_, f2, f3⟩, MR_h h⟩
  · rw [if_neg c1, if_neg c1]
    exact Or.inl ⟨1, 0, by decide, rfl, rfl⟩
/-- recalling a level -/
theorem r_recall (hf : 2000 ≤ fl) (hl : LI n ks ts hid) (h : MR n ks ws ts cn ct' ch hid a) : CM fl n hid ks ws ts cn ct' ch 114 k we ru rs dt ix an a (F_X8_puts fl rs dt ix an a k 0) := by
  have hn := hl.1
  have e := q_puts (rs := rs) (dt := dt) (ix := ix) (an := an) (k := k) hn hf h (p2 := false)
  rw [if_neg (by decide)] at e
  unfold CM
  rw [e, e_114, p_level (by decide), c_114 hn hf, show decide ((114 : Int32) = 102) = false by decide]
  by_cases c1 : inR 1 4 k = true
  · rw [if_pos c1, if_pos c1]
    by_cases c2 : hb hid k = false
    · rw [if_pos c2, if_pos c2]
      exact Or.inl ⟨6, k, by decide, rfl, rfl⟩
    · rw [if_neg c2, if_neg c2]
      have c2 : hb hid k = true := by cases z : hb hid k with | true => rfl | false => exact absurd z c2
      obtain ⟨kk, g1, g2, rfl⟩ := inR_n (lo := 1) (hi := 4) c1 (by decide) (by decide)
      obtain ⟨q, hq, he⟩ := hl.2.2.2.2
      obtain ⟨f1, f2, f3⟩ := show_f ⟨q, hq⟩ ⟨kk, by omega⟩ g1 (by rw [← he]; exact c2)
      have f1 : hid &&& (bit (nI kk) ^^^ (-1)) = hid ^^^ bit (nI kk) := by rw [he]; exact f1
      have f2 : (hid ^^^ bit (nI kk)).toNatClampNeg < 32 := by rw [he]; exact f2
      have f3 : hid ^^^ bit (nI kk) = nI (hid ^^^ bit (nI kk)).toNatClampNeg := by rw [he]; exact f3
      rw [f1]
      exact Or.inr ⟨0, _, nI n, _, ks, ws, ts, cn, ct', ch, _, rfl, rfl, rfl, n, rfl, LI_h hl ⟨_, f2, f3⟩, MR_h h⟩
  · rw [if_neg c1, if_neg c1]
    exact Or.inl ⟨1, 0, by decide, rfl, rfl⟩
