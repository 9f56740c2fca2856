/-! commands on a folder, on a level, and a toss -/
variable {fl n : Nat} {ks ws ts a : Nat → Int32} {key lev hid cn ct' ch : Int32} {k w we ru rs dt ix an x3 d0 sg : Int32}
theorem q_isThere (hn : n ≤ 24) (hf : 2000 ≤ fl) (h : MR n ks ws ts cn ct' ch hid a) : F_X8_isThere fl rs dt ix a k =
    (if inR 0 999 k = true then (match pw n ks k with | some _ => some (1, rs, dt, ix) | none => some (0, 3, k, 0)) else some (0, 1, 0, 0) : Option (Int32 × Int32 × Int32 × Int32)) := by
  unfold F_X8_isThere F_X8_refuses
  rw [q_isKey, bn_e]
  by_cases c1 : inR 0 999 k = true
  · rw [if_pos c1, if_neg (show ¬ (1 : Int32) = 0 by decide), q_find hn hf h, bn_e, if_pos c1]
    cases e : pw n ks k with
    | some j =>
      have hj := (pw_some e).1
      show (if (0 : Int32) ≤ nI j then _ else _) = _
      rw [if_pos ((nlt_iff_le _ _).mp (nI_nlt0 (by omega)))]
    | none =>
      show (if (0 : Int32) ≤ -1 then _ else _) = _
      rw [if_neg (by decide), bn4_e, if_pos rfl]
  · rw [if_neg c1, if_pos rfl, bn4_e, gd_e okB0, if_neg c1]
/-- why a command on a folder is refused -/
theorem p_folder (hn : n ≤ 24) (hf : 2000 ≤ fl) (hs : okC sg = true) : F_X0_againstFolder fl d0 (nI n) ks ws ts sg k we =
    (if inR 0 999 k = true ∧ inR 0 99 we = true then (match pw n ks k with | some j => if sg = 119 then F_X0_againstWeight fl d0 we (ws j) else F_X0_againstTower fl d0 sg (ts j) | none => some (3, k)) else some (1, d0) : Option (Int32 × Int32)) := by
  unfold F_X0_againstFolder F_X4_number F_X4_weight
  rw [bn_e, p_outside, bn_e]
  by_cases c1 : inR 0 999 k = true
  · rw [if_pos c1, if_pos (show (0 : Int32) = 0 from rfl), bn_e, p_outside, bn_e]
    by_cases c2 : inR 0 99 we = true
    · rw [if_pos c2, if_pos (show (0 : Int32) = 0 from rfl), bn_e, p_placeWith hn hf, bn_e, if_pos (show inR 0 999 k = true ∧ inR 0 99 we = true from ⟨c1, c2⟩)]
      cases e : pw n ks k with
      | some j =>
        have hj := (pw_some e).1
        show (if nI j = (-1 : Int32) then _ else _) = _
        rw [if_neg (nI_nm1 (by omega)), okc hs, bn_e]
        by_cases c3 : sg = 119
        · rw [if_pos c3, bn_e, p_weightOf hn (by omega), bn_e, bn2_id, if_pos hj]
          show _ = if sg = 119 then _ else _
          rw [if_pos c3]
        · rw [if_neg c3, bn_e, p_rungsOf hn (by omega), bn_e, bn2_id, if_pos hj]
          show _ = if sg = 119 then _ else _
          rw [if_neg c3]
      | none =>
        show (if (-1 : Int32) = (-1 : Int32) then _ else _) = _
        rw [if_pos rfl]; rfl
    · rw [if_neg c2, if_neg (show ¬ (1 : Int32) = 0 by decide), if_neg (fun q => c2 q.2)]
  · rw [if_neg c1, if_neg (show ¬ (1 : Int32) = 0 by decide), if_neg (fun q => c1 q.1)]
theorem e_45 : F_X0_reasonAgainst fl d0 (nI n) hid ks ws ts 45 k we ru = F_X0_againstFolder fl d0 (nI n) ks ws ts 45 k we := by
  unfold F_X0_reasonAgainst; rw [okc (by decide), bn_e, if_neg (by decide), if_pos rfl, bn2_id]
theorem e_100 : F_X0_reasonAgainst fl d0 (nI n) hid ks ws ts 100 k we ru = F_X0_againstFolder fl d0 (nI n) ks ws ts 100 k we := by
  unfold F_X0_reasonAgainst; rw [okc (by decide), bn_e, if_neg (by decide), if_neg (by decide), if_neg (by decide), if_pos rfl, bn2_id]
theorem e_117 : F_X0_reasonAgainst fl d0 (nI n) hid ks ws ts 117 k we ru = F_X0_againstFolder fl d0 (nI n) ks ws ts 117 k we := by
  unfold F_X0_reasonAgainst; rw [okc (by decide), bn_e, if_neg (by decide), if_neg (by decide), if_neg (by decide), if_neg (by decide), if_neg (by decide), if_neg (by decide), if_pos rfl, bn2_id]
theorem e_119 : F_X0_reasonAgainst fl d0 (nI n) hid ks ws ts 119 k we ru = F_X0_againstFolder fl d0 (nI n) ks ws ts 119 k we := by
  unfold F_X0_reasonAgainst; rw [okc (by decide), bn_e, if_neg (by decide), if_neg (by decide), if_neg (by decide), if_neg (by decide), if_neg (by decide), if_neg (by decide), if_neg (by decide), if_pos rfl, bn2_id]
theorem e_102 : F_X0_reasonAgainst fl d0 (nI n) hid ks ws ts 102 k we ru = F_X0_againstLevel fl d0 hid 102 k := by
  unfold F_X0_reasonAgainst; rw [okc (by decide), bn_e, if_neg (by decide), if_neg (by decide), if_neg (by decide), if_neg (by decide), if_pos rfl, bn2_id]
theorem e_114 : F_X0_reasonAgainst fl d0 (nI n) hid ks ws ts 114 k we ru = F_X0_againstLevel fl d0 hid 114 k := by
  unfold F_X0_reasonAgainst; rw [okc (by decide), bn_e, if_neg (by decide), if_neg (by decide), if_neg (by decide), if_neg (by decide), if_neg (by decide), if_pos rfl, bn2_id]
theorem e_116 : F_X0_reasonAgainst fl d0 (nI n) hid ks ws ts 116 k we ru = some (0, d0) := by
  unfold F_X0_reasonAgainst; rw [okc (by decide), bn_e, if_neg (by decide), if_neg (by decide), if_neg (by decide), if_neg (by decide), if_neg (by decide), if_neg (by decide), if_neg (by decide), if_neg (by decide)]
/-- dropping -/
theorem r_drop (hf : 2000 ≤ fl) (hl : LI n ks ts hid) (h : MR n ks ws ts cn ct' ch hid a) (hw : inR 0 99 we = true) : CM fl n hid ks ws ts cn ct' ch 45 k we ru rs dt ix an a (F_X8_drops fl rs dt ix an a k) := by
  have hn := hl.1
  unfold CM F_X8_drops
  rw [e_45, p_folder hn hf (by decide), q_isThere hn hf h]
  by_cases c1 : inR 0 999 k = true
  · rw [if_pos c1, if_pos (show inR 0 999 k = true ∧ inR 0 99 we = true from ⟨c1, hw⟩), q_find hn hf h]
    cases e : pw n ks k with
    | some j =>
      obtain ⟨hj, -, -⟩ := pw_some e
      obtain ⟨n, rfl⟩ : ∃ q, n = q + 1 := ⟨n - 1, by omega⟩
      refine Or.inr ⟨0, nI n, nI n, hid, dl ks j n, dl ws j n, dl ts j n, cn, ct', ch, ouA a j n, ?_, ?_, ?_, n, rfl, LI_del hl, ouA_MR h⟩
      · show (if (45 : Int32) = 119 then _ else _) = _
        rw [if_neg (by decide)]
        unfold F_X0_againstTower
        rw [if_neg (by decide), if_neg (by decide), if_pos rfl]
      · unfold F_X0_carryOut F_X4_number
        rw [bn_e, p_placeWith hn hf, e, bn_e, okc (by decide), bn_e, if_neg (by decide), if_pos rfl]
        show bn4 (F_X3_remove fl (nI (n + 1)) ks ws ts (nI j)) _ = _
        rw [p_remove (by omega) hf (by omega), bn4_e]; rfl
      · show bn4 (some (1, rs, dt, ix)) _ = _
        rw [bn4_e, if_neg (by decide)]
        show bn (some (nI j)) _ = _
        rw [bn_e, gl0, gl0]
        exact q_del (by omega) hf h (by omega)
    | none =>
      refine Or.inl ⟨3, k, by decide, rfl, ?_⟩
      show bn4 (some (0, 3, k, 0)) _ = _
      rw [bn4_e, if_pos rfl]
  · rw [if_neg c1, if_neg (fun q => c1 q.1)]
    exact Or.inl ⟨1, 0, by decide, rfl, by rw [bn4_e, if_pos rfl]⟩
/-- what a change of a tower does -/
theorem p_changeTower (hn : n ≤ 24) {j : Nat} (hj : j < n) {x : Int32} : F_X0_changeTower fl (nI n) ks ws ts (nI j) x = some (ts j + x, ks, ws, upd ts j (ts j + x)) := by
  unfold F_X0_changeTower
  rw [p_rungsOf hn (by omega), bn_e, p_keyOf hn (by omega), bn_e, p_weightOf hn (by omega), bn_e, if_pos hj, if_pos hj, if_pos hj, p_put hn hj, bn3_e, upd_id, upd_id]
theorem p_changeWeight (hn : n ≤ 24) {j : Nat} (hj : j < n) {x : Int32} : F_X0_changeWeight fl (nI n) ks ws ts (nI j) x = some (ws j, ks, upd ws j x, ts) := by
  unfold F_X0_changeWeight
  rw [p_weightOf hn (by omega), bn_e, p_keyOf hn (by omega), bn_e, p_rungsOf hn (by omega), bn_e, if_pos hj, if_pos hj, if_pos hj, p_put hn hj, bn3_e, upd_id, upd_id]
theorem gx1 {α : Type} {j : Nat} {x : Option α} (h : j < 24) : gi (((5 : Int32) + ((3 : Int32) * nI j)) + (1 : Int32)) 77 x = x := by rw [ix1, gx (by omega)]
theorem gx2 {α : Type} {j : Nat} {x : Option α} (h : j < 24) : gi (((5 : Int32) + ((3 : Int32) * nI j)) + (2 : Int32)) 77 x = x := by rw [ix2, gx (by omega)]
/-- raising -/
theorem r_raise (hf : 2000 ≤ fl) (hl : LI n ks ts hid) (h : MR n ks ws ts cn ct' ch hid a) (hw : inR 0 99 we = true) : CM fl n hid ks ws ts cn ct' ch 117 k we ru rs dt ix an a (F_X8_turns fl rs dt ix an a k 1) := by
  have hn := hl.1
  unfold CM F_X8_turns
  rw [e_117, p_folder hn hf (by decide), q_isThere hn hf h]
  by_cases c1 : inR 0 999 k = true
  · rw [if_pos c1, if_pos (show inR 0 999 k = true ∧ inR 0 99 we = true from ⟨c1, hw⟩), q_find hn hf h]
    cases e : pw n ks k with
    | some j =>
      obtain ⟨hj, -, -⟩ := pw_some e
      obtain ⟨t, h1, h5, ht⟩ := hl.2.2.1 j hj
      have em := (h.2.2.2.2.2 j hj).2.2
      have eu : F_X0_againstTower fl 0 117 (ts j) = some (if t = 5 then (5, nI 5) else (0, 0)) := by
        unfold F_X0_againstTower
        rw [ht, if_pos rfl]
        by_cases c : t = 5
        · subst c; rw [if_pos (by decide), if_neg (by decide), if_pos rfl]; rfl
        · rw [if_neg (fun q => by have := (nI_leI (a := 5) (b := t) (by omega) (by omega)).mp q; omega), if_neg (by decide), if_pos rfl, if_neg c]
      have er : bn4 (some ((1 : Int32), rs, dt, ix)) (fun r_2 t_reason_2 t_detail_2 t_index_2 => if r_2 = 0 then (some ((0 : Int32), t_reason_2, t_detail_2, t_index_2, an, a)) else bn (some (nI j)) fun r_12 => bn (F_X8_rungs fl a r_12) fun r_18 => bn (F_X8_in fl (r_18 + 1) (1 : Int32) (5 : Int32)) fun r_29 => if r_29 = 0 then (bn (F_X8_rungs fl a r_12) fun r_39 => bn4 (F_X8_refuses fl t_reason_2 t_detail_2 t_index_2 (5 : Int32) r_39) fun r_42 t_reason_42 t_detail_42 t_index_42 => gd (okB r_42 = true) (some (r_42, t_reason_42, t_detail_42, t_index_42, an, a))) else (gi (((5 : Int32) + ((3 : Int32) * r_12)) + (2 : Int32)) 77 (bn2 (F_X8_does fl an (r_18 + 1)) fun r_63 t_answer_63 => gd (okB r_63 = true) (some (r_63, t_reason_2, t_detail_2, t_index_2, t_answer_63, upd a (((5 : Int32) + ((3 : Int32) * r_12)) + (2 : Int32)).toNatClampNeg (r_18 + 1)))))) = (if t = 5 then some (0, 5, nI 5, 0, an, a) else some (1, rs, dt, ix, nI (t + 1), upd a (7 + 3 * j) (nI (t + 1))) : Option (Int32 × Int32 × Int32 × Int32 × Int32 × (Nat → Int32))) := by
        unfold F_X8_refuses F_X8_does
        rw [bn4_e, if_neg (show ¬ (1 : Int32) = 0 by decide), bn_e, q_rungs (by omega), bn_e, em, ht, nI_1, q_in, bn_e, bn_e, gx2 (by omega), bn4_e, bn2_e, gd_e okB0, gd_e okB1, ix2, nI_clamp (by omega)]
        by_cases c : t = 5
        · subst c; rw [if_neg (show ¬ inR 1 5 (nI (5 + 1)) = true by decide), if_pos rfl, if_pos rfl]
        · have ei : inR 1 5 (nI (t + 1)) = true := nI_inR (lo := 1) (hi := 5) (by omega) (by omega) (by decide)
          rw [if_pos ei, if_neg (show ¬ (1 : Int32) = 0 by decide), if_neg c]
      by_cases c : t = 5
      · refine Or.inl ⟨5, nI 5, by decide, ?_, ?_⟩
        · show (if (117 : Int32) = 119 then _ else _) = _
          rw [if_neg (by decide), eu, if_pos c]
        · rw [if_pos c] at er; exact er
      · rw [if_neg c] at er
        refine Or.inr ⟨0, nI (t + 1), nI n, hid, ks, ws, upd ts j (nI (t + 1)), cn, ct', ch, _, ?_, ?_, er, n, rfl, LI_t hl (by omega) (by omega), MR_t h⟩
        · show (if (117 : Int32) = 119 then _ else _) = _
          rw [if_neg (by decide), eu, if_neg c]
        · unfold F_X0_carryOut F_X4_number
          rw [bn_e, p_placeWith hn hf, e, bn_e, okc (by decide), bn_e, if_neg (by decide), if_neg (by decide), if_neg (by decide), if_neg (by decide), if_neg (by decide), if_neg (by decide), if_pos rfl]
          show bn4 (F_X0_changeTower fl (nI n) ks ws ts (nI j) 1) _ = _
          rw [p_changeTower hn hj, bn4_e, ht, nI_1]
    | none =>
      refine Or.inl ⟨3, k, by decide, rfl, ?_⟩
      show bn4 (some (0, 3, k, 0)) _ = _
      rw [bn4_e, if_pos rfl]
  · rw [if_neg c1, if_neg (fun q => c1 q.1)]
    exact Or.inl ⟨1, 0, by decide, rfl, by rw [bn4_e, if_pos rfl]⟩
/-- lowering -/
theorem r_lower (hf : 2000 ≤ fl) (hl : LI n ks ts hid) (h : MR n ks ws ts cn ct' ch hid a) (hw : inR 0 99 we = true) : CM fl n hid ks ws ts cn ct' ch 100 k we ru rs dt ix an a (F_X8_turns fl rs dt ix an a k (-1)) := by
  have hn := hl.1
  unfold CM F_X8_turns
  rw [e_100, p_folder hn hf (by decide), q_isThere hn hf h]
  by_cases c1 : inR 0 999 k = true
  · rw [if_pos c1, if_pos (show inR 0 999 k = true ∧ inR 0 99 we = true from ⟨c1, hw⟩), q_find hn hf h]
    cases e : pw n ks k with
    | some j =>
      obtain ⟨hj, -, -⟩ := pw_some e
      obtain ⟨t, h1, h5, ht⟩ := hl.2.2.1 j hj
      have em := (h.2.2.2.2.2 j hj).2.2
      have eu : F_X0_againstTower fl 0 100 (ts j) = some (if t = 1 then (5, nI 1) else (0, 0)) := by
        unfold F_X0_againstTower
        rw [ht, if_neg (by decide), if_pos rfl]
        by_cases c : t = 1
        · subst c; rw [if_neg (by decide), if_neg (by decide), if_pos rfl]; rfl
        · rw [if_pos (show (1 : Int32) < nI t from (nI_ltI (a := 1) (b := t) (by omega) (by omega)).mpr (by omega)), if_pos rfl, if_neg c]
      have er : bn4 (some ((1 : Int32), rs, dt, ix)) (fun r_2 t_reason_2 t_detail_2 t_index_2 => if r_2 = 0 then (some ((0 : Int32), t_reason_2, t_detail_2, t_index_2, an, a)) else bn (some (nI j)) fun r_12 => bn (F_X8_rungs fl a r_12) fun r_18 => bn (F_X8_in fl (r_18 + (-1 : Int32)) (1 : Int32) (5 : Int32)) fun r_29 => if r_29 = 0 then (bn (F_X8_rungs fl a r_12) fun r_39 => bn4 (F_X8_refuses fl t_reason_2 t_detail_2 t_index_2 (5 : Int32) r_39) fun r_42 t_reason_42 t_detail_42 t_index_42 => gd (okB r_42 = true) (some (r_42, t_reason_42, t_detail_42, t_index_42, an, a))) else (gi (((5 : Int32) + ((3 : Int32) * r_12)) + (2 : Int32)) 77 (bn2 (F_X8_does fl an (r_18 + (-1 : Int32))) fun r_63 t_answer_63 => gd (okB r_63 = true) (some (r_63, t_reason_2, t_detail_2, t_index_2, t_answer_63, upd a (((5 : Int32) + ((3 : Int32) * r_12)) + (2 : Int32)).toNatClampNeg (r_18 + (-1 : Int32))))))) = (if t = 1 then some (0, 5, nI 1, 0, an, a) else some (1, rs, dt, ix, nI (t - 1), upd a (7 + 3 * j) (nI (t - 1))) : Option (Int32 × Int32 × Int32 × Int32 × Int32 × (Nat → Int32))) := by
        have em1 : nI t + (-1) = nI (t - 1) := by
          obtain ⟨t, rfl⟩ : ∃ q, t = q + 1 := ⟨t - 1, by omega⟩
          exact nI_m1 t
        unfold F_X8_refuses F_X8_does
        rw [bn4_e, if_neg (show ¬ (1 : Int32) = 0 by decide), bn_e, q_rungs (by omega), bn_e, em, ht, em1, q_in, bn_e, bn_e, gx2 (by omega), bn4_e, bn2_e, gd_e okB0, gd_e okB1, ix2, nI_clamp (by omega)]
        by_cases c : t = 1
        · subst c; rw [if_neg (show ¬ inR 1 5 (nI (1 - 1)) = true by decide), if_pos rfl, if_pos rfl]
        · have ei : inR 1 5 (nI (t - 1)) = true := nI_inR (lo := 1) (hi := 5) (by omega) (by omega) (by decide)
          rw [if_pos ei, if_neg (show ¬ (1 : Int32) = 0 by decide), if_neg c]
      by_cases c : t = 1
      · refine Or.inl ⟨5, nI 1, by decide, ?_, ?_⟩
        · show (if (100 : Int32) = 119 then _ else _) = _
          rw [if_neg (by decide), eu, if_pos c]
        · rw [if_pos c] at er; exact er
      · rw [if_neg c] at er
        refine Or.inr ⟨0, nI (t - 1), nI n, hid, ks, ws, upd ts j (nI (t - 1)), cn, ct', ch, _, ?_, ?_, er, n, rfl, LI_t hl (by omega) (by omega), MR_t h⟩
        · show (if (100 : Int32) = 119 then _ else _) = _
          rw [if_neg (by decide), eu, if_neg c]
        · unfold F_X0_carryOut F_X4_number
          rw [bn_e, p_placeWith hn hf, e, bn_e, okc (by decide), bn_e, if_neg (by decide), if_neg (by decide), if_neg (by decide), if_pos rfl]
          show bn4 (F_X0_changeTower fl (nI n) ks ws ts (nI j) (-1)) _ = _
          rw [p_changeTower hn hj, bn4_e, ht]
          obtain ⟨t, rfl⟩ : ∃ q, t = q + 1 := ⟨t - 1, by omega⟩
          rw [nI_m1]; rfl
    | none =>
      refine Or.inl ⟨3, k, by decide, rfl, ?_⟩
      show bn4 (some (0, 3, k, 0)) _ = _
      rw [bn4_e, if_pos rfl]
  · rw [if_neg c1, if_neg (fun q => c1 q.1)]
    exact Or.inl ⟨1, 0, by decide, rfl, by rw [bn4_e, if_pos rfl]⟩
/-- weighing -/
theorem r_weigh (hf : 2000 ≤ fl) (hl : LI n ks ts hid) (h : MR n ks ws ts cn ct' ch hid a) : CM fl n hid ks ws ts cn ct' ch 119 k we ru rs dt ix an a (F_X8_weighs fl rs dt ix an a k we) := by
  have hn := hl.1
  unfold CM F_X8_weighs F_X8_refuses
  rw [e_119, p_folder hn hf (by decide), q_isKey, bn_e]
  by_cases c1 : inR 0 999 k = true
  · rw [if_pos c1, if_neg (show ¬ (1 : Int32) = 0 by decide), q_isWeight, bn_e]
    by_cases c2 : inR 0 99 we = true
    · rw [if_pos c2, if_neg (show ¬ (1 : Int32) = 0 by decide), if_pos (show inR 0 999 k = true ∧ inR 0 99 we = true from ⟨c1, c2⟩), q_isThere hn hf h, if_pos c1, q_find hn hf h]
      cases e : pw n ks k with
      | some j =>
        obtain ⟨hj, -, -⟩ := pw_some e
        have em := (h.2.2.2.2.2 j hj).2.1
        have er : bn4 (some ((1 : Int32), rs, dt, ix)) (fun r_23 t_reason_23 t_detail_23 t_index_23 => if r_23 = 0 then (some ((0 : Int32), t_reason_23, t_detail_23, t_index_23, an, a)) else (bn (some (nI j)) fun r_33 => bn (F_X8_weight fl a r_33) fun r_39 => if r_39 = we then (bn4 (some ((0 : Int32), (7 : Int32), we, (0 : Int32))) fun r_50 t_reason_50 t_detail_50 t_index_50 => gd (okB r_50 = true) (some (r_50, t_reason_50, t_detail_50, t_index_50, an, a))) else (bn (F_X8_weight fl a r_33) fun r_56 => gi (((5 : Int32) + ((3 : Int32) * r_33)) + (1 : Int32)) 77 (bn2 (F_X8_does fl an r_56) fun r_77 t_answer_77 => gd (okB r_77 = true) (some (r_77, t_reason_23, t_detail_23, t_index_23, t_answer_77, upd a (((5 : Int32) + ((3 : Int32) * r_33)) + (1 : Int32)).toNatClampNeg we)))))) = (if ws j = we then some (0, 7, we, 0, an, a) else some (1, rs, dt, ix, ws j, upd a (6 + 3 * j) we) : Option (Int32 × Int32 × Int32 × Int32 × Int32 × (Nat → Int32))) := by
          unfold F_X8_does
          rw [bn4_e, if_neg (show ¬ (1 : Int32) = 0 by decide), bn_e, q_weight (by omega), bn_e, em, bn_e, gx1 (by omega), bn4_e, bn2_e, gd_e okB0, gd_e okB1, ix1, nI_clamp (by omega)]
        by_cases c : ws j = we
        · rw [if_pos c] at er
          refine Or.inl ⟨7, we, by decide, ?_, er⟩
          show (if (119 : Int32) = 119 then _ else _) = _
          unfold F_X0_againstWeight
          rw [if_pos rfl, if_pos c.symm]; rfl
        · rw [if_neg c] at er
          refine Or.inr ⟨0, ws j, nI n, hid, ks, upd ws j we, ts, cn, ct', ch, _, ?_, ?_, er, n, rfl, hl, MR_w h⟩
          · show (if (119 : Int32) = 119 then _ else _) = _
            unfold F_X0_againstWeight
            rw [if_pos rfl, if_neg (fun q => c q.symm)]
          · unfold F_X0_carryOut F_X4_number F_X4_weight
            rw [bn_e, p_placeWith hn hf, e, bn_e, okc (by decide), bn_e, if_neg (by decide), if_neg (by decide), if_neg (by decide), if_neg (by decide), if_neg (by decide), if_neg (by decide), if_neg (by decide), if_pos rfl, bn_e]
            show bn4 (F_X0_changeWeight fl (nI n) ks ws ts (nI j) we) _ = _
            rw [p_changeWeight hn hj, bn4_e]
      | none =>
        refine Or.inl ⟨3, k, by decide, rfl, ?_⟩
        show bn4 (some (0, 3, k, 0)) _ = _
        rw [bn4_e, if_pos rfl]
    · rw [if_neg c2, if_pos (show (0 : Int32) = 0 from rfl), if_neg (fun q => c2 q.2), bn4_e, gd_e okB0]
      exact Or.inl ⟨1, 0, by decide, rfl, rfl⟩
  · rw [if_neg c1, if_pos (show (0 : Int32) = 0 from rfl), if_neg (fun q => c1 q.1), bn4_e, gd_e okB0]
    exact Or.inl ⟨1, 0, by decide, rfl, rfl⟩
/-- a toss, as a command -/
theorem r_tossC (hf : 2000 ≤ fl) (hl : LI n ks ts hid) (h : MR n ks ws ts cn ct' ch hid a) : CM fl n hid ks ws ts cn ct' ch 116 k we ru rs dt ix an a (bn2 (F_X8_tosses fl a) fun r a' => some (1, rs, dt, ix, r, a')) := by
  have hn := hl.1
  obtain ⟨a', e1, h'⟩ := q_tosses (fl := fl) h
  have ec : F_X0_carryOut fl (nI n) hid ks ws ts cn ct' ch 116 k we ru = some ((if hd (fw cn) then 1 else 0), nI n, hid, ks, ws, ts, fw cn, ct' + 1, (if hd (fw cn) then ch + 1 else ch)) := by
    unfold F_X0_carryOut F_X4_number F_X3_coin
    rw [bn_e, p_placeWith hn hf, bn_e, okc (by decide), bn_e, if_neg (by decide), if_neg (by decide), if_neg (by decide), if_neg (by decide), if_neg (by decide), if_neg (by decide), if_neg (by decide), if_neg (by decide), bn_e, p_throwIt]
    by_cases c : hd (fw cn) = true
    · rw [if_pos c, if_pos c, if_pos c, bn4_e, if_neg (by decide)]
    · rw [if_neg c, if_neg c, if_neg c, bn4_e, if_pos rfl]
  exact Or.inr ⟨0, _, _, _, _, _, _, _, _, _, a', e_116, ec, by rw [e1, bn2_e], n, rfl, hl, h'⟩
