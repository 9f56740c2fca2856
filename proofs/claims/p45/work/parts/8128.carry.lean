/-! texts: a command carried out by both -/
variable {fl n : Nat} {ks ws ts a : Nat → Int32} {hid cn ct' ch : Int32} {s nu we ru od rs dt ix an : Int32} {told : Nat → Int32}
theorem CM_gd {Q : Option (Int32 × Int32 × Int32 × Int32 × Int32 × (Nat → Int32))} (h : CM fl n hid ks ws ts cn ct' ch s nu we ru rs dt ix an a Q) :
    CM fl n hid ks ws ts cn ct' ch s nu we ru rs dt ix an a (bn6 Q fun r b c d e f => gd (okB r = true) (some (r, b, c, d, e, f))) := by
  rcases h with ⟨r, d, h0, h1, h2⟩ | ⟨d, v, z', hid', ks', ws', ts', cn', ct'', ch', a', h1, h2, h3, h4⟩
  · exact Or.inl ⟨r, d, h0, h1, by rw [h2, bn6_e, gd_e okB0]⟩
  · exact Or.inr ⟨d, v, z', hid', ks', ws', ts', cn', ct'', ch', a', h1, h2, by rw [h3, bn6_e, gd_e okB1], h4⟩
theorem r_carries (hf : 2000 ≤ fl) (hl : LI n ks ts hid) (h : MR n ks ws ts cn ct' ch hid a) (hO : ORD s nu we ru od told) : CM fl n hid ks ws ts cn ct' ch s nu we ru rs dt ix an a (F_X8_carries fl od rs dt ix an a told) := by
  have i0 : ∀ {α : Type} {x : Option α}, gi (0 : Int32) 3 x = x := fun {α x} => g_lit (k := 0) (by decide) (by decide)
  have i1 : ∀ {α : Type} {x : Option α}, gi (1 : Int32) 3 x = x := fun {α x} => g_lit (k := 1) (by decide) (by decide)
  have i2 : ∀ {α : Type} {x : Option α}, gi (2 : Int32) 3 x = x := fun {α x} => g_lit (k := 2) (by decide) (by decide)
  unfold F_X8_carries
  rw [i0, i1, i2, i2, i0, i0, i0, i0, i0, i0, i1, c0, c1, c2]
  have w0 : inR 0 99 0 = true := by decide
  rcases hO with ⟨rfl, rfl, g, rfl, rfl, rfl⟩ | ⟨rfl, rfl, g, rfl, rfl, rfl⟩ | ⟨rfl, g, rfl, rfl⟩ | ⟨rfl, rfl⟩ | ⟨rfl, rfl, rfl, rfl⟩
  · rw [if_pos rfl, if_pos g]; exact CM_gd (r_file hf hl h)
  · rw [if_pos rfl, if_neg g]; exact CM_gd (r_fileTall hf hl h)
  · rcases g with rfl | rfl | rfl | rfl | rfl
    · rw [if_neg (by decide), if_pos rfl]; exact CM_gd (r_drop hf hl h w0)
    · rw [if_neg (by decide), if_neg (by decide), if_pos rfl]; exact CM_gd (r_lower hf hl h w0)
    · rw [if_neg (by decide), if_neg (by decide), if_neg (by decide), if_neg (by decide), if_neg (by decide), if_pos rfl]; exact CM_gd (r_raise hf hl h w0)
    · rw [if_neg (by decide), if_neg (by decide), if_neg (by decide), if_pos rfl]; exact CM_gd (r_forget hf hl h)
    · rw [if_neg (by decide), if_neg (by decide), if_neg (by decide), if_neg (by decide), if_pos rfl]; exact CM_gd (r_recall hf hl h)
  · rw [if_neg (by decide), if_neg (by decide), if_neg (by decide), if_neg (by decide), if_neg (by decide), if_neg (by decide), if_neg (by decide)]
    have hc := r_tossC (k := nu) (we := we) (ru := ru) (rs := rs) (dt := dt) (ix := ix) (an := an) hf hl h
    obtain ⟨a', e1, -⟩ := q_tosses (fl := fl) h
    unfold F_X8_does
    rw [e1, bn2_e] at hc
    rw [e1, bn2_e]
    by_cases c : hd (fw cn) = true
    · rw [if_pos c] at hc
      rw [if_pos c, if_neg (by decide), bn2_e, gd_e okB1]; exact hc
    · rw [if_neg c] at hc
      rw [if_neg c, if_pos rfl, bn2_e, gd_e okB1]; exact hc
  · rw [if_neg (by decide), if_neg (by decide), if_neg (by decide), if_neg (by decide), if_neg (by decide), if_neg (by decide), if_pos rfl]; exact CM_gd (r_weigh hf hl h)
