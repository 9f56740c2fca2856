/-! commands: the archive's and the reference's agree -/
variable {fl n : Nat} {ks ws ts a : Nat → Int32} {key lev hid cn ct' ch : Int32} {k w we ru rs dt ix an x3 d0 : Int32}
/-- both refuse for the same reason, or both do the same -/
def CM (fl n : Nat) (hid : Int32) (ks ws ts : Nat → Int32) (cn ct ch sg no we ru rs dt ix an : Int32) (a : Nat → Int32) (Q : Option (Int32 × Int32 × Int32 × Int32 × Int32 × (Nat → Int32))) : Prop :=
  (∃ r d, r ≠ 0 ∧ F_X0_reasonAgainst fl 0 (nI n) hid ks ws ts sg no we ru = some (r, d) ∧ Q = some (0, r, d, 0, an, a)) ∨
  ∃ d v z' hid' ks' ws' ts' cn' ct'' ch' a', F_X0_reasonAgainst fl 0 (nI n) hid ks ws ts sg no we ru = some (0, d) ∧ F_X0_carryOut fl (nI n) hid ks ws ts cn ct ch sg no we ru = some (v, z', hid', ks', ws', ts', cn', ct'', ch') ∧ Q = some (1, rs, dt, ix, v, a') ∧ LL z' hid' ks' ws' ts' cn' ct'' ch' a'
theorem okc {x : Int32} (h : okC x = true) : F_X4_sign fl x = some x := gd_e h
/-! why a filing is refused -/
theorem p_filing (hn : n ≤ 24) (hf : 2000 ≤ fl) : F_X0_againstFiling fl d0 (nI n) ks k we ru =
    (if inR 0 999 k = true ∧ inR 0 99 we = true ∧ inR 1 5 ru = true then (match pw n ks k with | some j => some (4, nI j) | none => if n < 24 then some (0, d0) else some (2, 24)) else some (1, d0) : Option (Int32 × Int32)) := by
  unfold F_X0_againstFiling F_X4_number F_X4_weight F_X4_rungs
  rw [bn_e, p_outside, bn_e]
  by_cases c1 : inR 0 999 k = true
  · rw [if_pos c1, if_pos rfl, bn_e, p_outside, bn_e]
    by_cases c2 : inR 0 99 we = true
    · rw [if_pos c2, if_pos rfl, bn_e, p_outside, bn_e]
      by_cases c3 : inR 1 5 ru = true
      · rw [if_pos c3, if_pos rfl, bn_e, p_placeWith hn hf, bn_e, if_pos (show inR 0 999 k = true ∧ inR 0 99 we = true ∧ inR 1 5 ru = true from ⟨c1, c2, c3⟩)]
        cases e : pw n ks k with
        | some j =>
          have hj := (pw_some e).1
          have : ¬ nI j = (-1 : Int32) := fun z => by
            have h2 := congrArg Int32.toInt z
            rw [nI_toInt (by omega), show ((-1 : Int32)).toInt = -1 by decide] at h2
            omega
          show (if nI j = (-1 : Int32) then _ else _) = _
          rw [if_neg this]; rfl
        | none =>
          show (if (-1 : Int32) = (-1 : Int32) then _ else _) = _
          rw [if_pos rfl]
          unfold F_X3_isFull
          show bn (if nI n < nI 24 then _ else _) _ = if n < 24 then _ else _
          by_cases c4 : n < 24
          · rw [if_pos ((nI_ltI (a := n) (b := 24) (by omega) (by omega)).mpr c4), bn_e, if_pos rfl, if_pos c4]
          · rw [if_neg (fun z => c4 ((nI_ltI (a := n) (b := 24) (by omega) (by omega)).mp z)), bn_e, if_neg (by decide), if_neg c4]; rfl
      · rw [if_neg c3, if_neg (by decide), if_neg (fun q => c3 q.2.2)]
    · rw [if_neg c2, if_neg (by decide), if_neg (fun q => c2 q.2.1)]
  · rw [if_neg c1, if_neg (by decide), if_neg (fun q => c1 q.1)]
theorem nI_nm1 {j : Nat} (h : j < 2 ^ 31) : ¬ nI j = (-1 : Int32) := fun z => by
  have h2 := congrArg Int32.toInt z
  rw [nI_toInt h, show ((-1 : Int32)).toInt = -1 by decide] at h2
  omega
theorem nI_nlt0 {j : Nat} (h : j < 2 ^ 31) : ¬ nI j < (0 : Int32) := fun z => by
  rw [Int32.lt_iff_toInt_lt, nI_toInt h, show ((0 : Int32)).toInt = 0 by decide] at z
  omega
theorem e_43 : F_X0_reasonAgainst fl d0 (nI n) hid ks ws ts 43 k we ru = F_X0_againstFiling fl d0 (nI n) ks k we ru := by
  unfold F_X0_reasonAgainst; rw [okc (by decide), bn_e, if_pos rfl, bn2_id]
theorem e_94 : F_X0_reasonAgainst fl d0 (nI n) hid ks ws ts 94 k we ru = F_X0_againstFiling fl d0 (nI n) ks k we ru := by
  unfold F_X0_reasonAgainst; rw [okc (by decide), bn_e, if_neg (by decide), if_neg (by decide), if_pos rfl, bn2_id]
theorem c_43 (hn : n ≤ 24) (hf : 2000 ≤ fl) : F_X0_carryOut fl (nI n) hid ks ws ts cn ct' ch 43 k we ru = bn8 (F_X0_insertByCoins fl (nI n) ks ws ts cn ct' ch k we) fun r a b c d e f g => some (r, a, hid, b, c, d, e, f, g) := by
  unfold F_X0_carryOut F_X4_number
  rw [bn_e, p_placeWith hn hf, bn_e, okc (by decide), bn_e, if_pos rfl]
theorem c_94 (hn : n ≤ 24) (hf : 2000 ≤ fl) : F_X0_carryOut fl (nI n) hid ks ws ts cn ct' ch 94 k we ru = bn4 (F_X3_insert fl (nI n) ks ws ts k we ru) fun a b c d => bn (F_X3_lowerKeys fl a b k) fun r => some (r, a, hid, b, c, d, cn, ct', ch) := by
  unfold F_X0_carryOut F_X4_number F_X4_weight F_X4_rungs
  rw [bn_e, p_placeWith hn hf, bn_e, okc (by decide), bn_e, if_neg (by decide), if_neg (by decide), if_pos rfl]; rfl
theorem okB0 : okB 0 = true := by decide
theorem okB1 : okB 1 = true := by decide
/-- a file command -/
theorem r_file (hf : 2000 ≤ fl) (hl : LI n ks ts hid) (h : MR n ks ws ts cn ct' ch hid a) : CM fl n hid ks ws ts cn ct' ch 43 k w 1 rs dt ix an a (F_X8_files fl rs dt ix an a k w x3 0) := by
  have hn := hl.1
  unfold CM
  rw [e_43, p_filing hn hf]
  unfold F_X8_files F_X8_refuses
  rw [q_isKey, bn_e]
  by_cases c1 : inR 0 999 k = true
  · rw [if_pos c1, if_neg (show ¬ (1 : Int32) = 0 by decide), q_isWeight, bn_e]
    by_cases c2 : inR 0 99 w = true
    · rw [if_pos c2, if_neg (show ¬ (1 : Int32) = 0 by decide), if_pos (show (0 : Int32) = 0 from rfl), q_find hn hf h, bn_e, if_pos (show inR 0 999 k = true ∧ inR 0 99 w = true ∧ inR 1 5 1 = true from ⟨c1, c2, by decide⟩)]
      cases e : pw n ks k with
      | some j =>
        have hj := (pw_some e).1
        refine Or.inl ⟨4, nI j, by decide, rfl, ?_⟩
        show (if nI j < (0 : Int32) then _ else _) = _
        rw [if_neg (nI_nlt0 (by omega)), bn_e, bn4_e, gd_e okB0]
      | none =>
        show _ ∨ _
        by_cases c4 : n < 24
        · obtain ⟨t, u, v, z, a', g1, g2, g3, g4, g5⟩ := r_tower (fl := fl) (rs := rs) (dt := dt) (ix := ix) (an := an) (k := k) (w := w) (x3 := x3) c4 hf 4 1 fl fl cn ct' ch a (by omega) (by omega) (by omega) (by omega) h
          refine Or.inr ⟨0, nI t, nI (n + 1), hid, ins ks (lw n ks k) n k, ins ws (lw n ks k) n w, ins ts (lw n ks k) n (nI t), u, v, z, inA a' (lw n ks k) n k w (nI t), if_pos c4, ?_, ?_, ⟨n + 1, rfl, LI_ins hl c4 e (inR_k c1) g2 g3, inA_MR g4 lw_le⟩⟩
          · rw [c_43 hn hf]
            unfold F_X0_insertByCoins F_X3_coin F_X4_number F_X4_weight F_X1_throwTower
            rw [bn_e, l1, g1, bn4_e, bn_e, bn_e, p_insert c4 hf, bn4_e, bn8_e]
          · show (if (-1 : Int32) < 0 then _ else _) = _
            rw [if_pos (by decide), gl0, c0, h.1, if_neg (fun q => by have := (nI_eq (a := n) (b := 24) (by omega) (by omega)).mp q; omega), if_pos rfl]
            exact g5
        · refine Or.inl ⟨2, 24, by decide, if_neg c4, ?_⟩
          show (if (-1 : Int32) < 0 then _ else _) = _
          rw [if_pos (by decide), gl0, c0, h.1, if_pos (show nI n = (24 : Int32) by rw [show n = 24 by omega]; rfl), bn4_e, gd_e okB0]
    · rw [if_neg c2, if_pos (show (0 : Int32) = 0 from rfl), if_neg (fun q => c2 q.2.1), bn4_e, gd_e okB0]
      exact Or.inl ⟨1, 0, by decide, rfl, rfl⟩
  · rw [if_neg c1, if_pos (show (0 : Int32) = 0 from rfl), if_neg (fun q => c1 q.1), bn4_e, gd_e okB0]
    exact Or.inl ⟨1, 0, by decide, rfl, rfl⟩
/-- a filing with a tower that is told -/
theorem r_fileTall (hf : 2000 ≤ fl) (hl : LI n ks ts hid) (h : MR n ks ws ts cn ct' ch hid a) : CM fl n hid ks ws ts cn ct' ch 94 k w ru rs dt ix an a (F_X8_files fl rs dt ix an a k w ru 1) := by
  have hn := hl.1
  unfold CM
  rw [e_94, p_filing hn hf]
  unfold F_X8_files F_X8_refuses
  rw [q_isKey, bn_e]
  by_cases c1 : inR 0 999 k = true
  · rw [if_pos c1, if_neg (show ¬ (1 : Int32) = 0 by decide), q_isWeight, bn_e]
    by_cases c2 : inR 0 99 w = true
    · rw [if_pos c2, if_neg (show ¬ (1 : Int32) = 0 by decide), if_neg (show ¬ (1 : Int32) = 0 by decide), q_in, bn_e]
      by_cases c3 : inR 1 5 ru = true
      · rw [if_pos c3, if_neg (show ¬ (1 : Int32) = 0 by decide), q_find hn hf h, bn_e, if_pos (show inR 0 999 k = true ∧ inR 0 99 w = true ∧ inR 1 5 ru = true from ⟨c1, c2, c3⟩)]
        cases e : pw n ks k with
        | some j =>
          have hj := (pw_some e).1
          refine Or.inl ⟨4, nI j, by decide, rfl, ?_⟩
          show (if nI j < (0 : Int32) then _ else _) = _
          rw [if_neg (nI_nlt0 (by omega)), bn_e, bn4_e, gd_e okB0]
        | none =>
          show _ ∨ _
          by_cases c4 : n < 24
          · obtain ⟨t, g2, g3, rfl⟩ := inR_n (lo := 1) (hi := 5) c3 (by decide) (by decide)
            refine Or.inr ⟨0, nI (lw n ks k), nI (n + 1), hid, ins ks (lw n ks k) n k, ins ws (lw n ks k) n w, ins ts (lw n ks k) n (nI t), cn, ct', ch, inA a (lw n ks k) n k w (nI t), if_pos c4, ?_, ?_, ⟨n + 1, rfl, LI_ins hl c4 e (inR_k c1) g2 g3, inA_MR h lw_le⟩⟩
            · rw [c_94 hn hf, p_insert c4 hf, bn4_e, p_lowerKeys (by omega) hf, bn_e, lw_ins hl e]
            · show (if (-1 : Int32) < 0 then _ else _) = _
              rw [if_pos (by decide), gl0, c0, h.1, if_neg (fun q => by have := (nI_eq (a := n) (b := 24) (by omega) (by omega)).mp q; omega), if_neg (by decide), q_lower hn hf h, bn_e, gl0]
              have g := q_ins (rs := rs) (dt := dt) (ix := ix) (an := an) (k := k) (w := w) (x3 := nI t) (x4 := 1) (r := nI t) c4 hf h
              rw [if_neg (by decide), c0, h.1] at g
              exact g
          · refine Or.inl ⟨2, 24, by decide, if_neg c4, ?_⟩
            show (if (-1 : Int32) < 0 then _ else _) = _
            rw [if_pos (by decide), gl0, c0, h.1, if_pos (show nI n = (24 : Int32) by rw [show n = 24 by omega]; rfl), bn4_e, gd_e okB0]
      · rw [if_neg c3, if_pos (show (0 : Int32) = 0 from rfl), if_neg (fun q => c3 q.2.2), bn4_e, gd_e okB0]
        exact Or.inl ⟨1, 0, by decide, rfl, rfl⟩
    · rw [if_neg c2, if_pos (show (0 : Int32) = 0 from rfl), if_neg (fun q => c2 q.2.1), bn4_e, gd_e okB0]
      exact Or.inl ⟨1, 0, by decide, rfl, rfl⟩
  · rw [if_neg c1, if_pos (show (0 : Int32) = 0 from rfl), if_neg (fun q => c1 q.1), bn4_e, gd_e okB0]
    exact Or.inl ⟨1, 0, by decide, rfl, rfl⟩
