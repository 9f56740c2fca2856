/-! questions out of range -/
theorem dK_no {x : Int32} (h : inR 0 999 x = false) : F_X7_demandKey 2000 x = some 1 := by rw [p_demandKey, h]; rfl
theorem dK_ok {x : Int32} (h : inR 0 999 x = true) : F_X7_demandKey 2000 x = some 0 := by rw [p_demandKey, h]; rfl
theorem dL_no {x : Int32} (h : inR 0 4 x = false) : F_X7_demandLevel 2000 x = some 3 := by rw [p_demandLevel, h]; rfl
theorem dL_ok {x : Int32} (h : inR 0 4 x = true) : F_X7_demandLevel 2000 x = some 0 := by rw [p_demandLevel, h]; rfl
theorem dR_no {x z : Int32} (h : rR x z = false) : F_X7_demandRange 2000 x z = some 1 := by rw [p_demandRange, h]; rfl
section ZZ
variable {q : Lad}
theorem z_folder1 : lq_folderOf q 1000 9 = -1001 := by unfold lq_folderOf qv_folderOf F_X7_folderOf; rw [dK_no (by decide)]; rfl
theorem z_folder2 {k p : Int32} (h : inR 0 999 k = true) (hp : p < 0) : lq_folderOf q k p = -1001 := by unfold lq_folderOf qv_folderOf F_X7_folderOf; rw [dK_ok h, bn_e, if_pos rfl, if_pos hp]; rfl
theorem z_folder3 {k p : Int32} (h : inR 0 999 k = true) (hp : ¬ p < 0) (hp2 : ¬ p ≤ 3) : lq_folderOf q k p = -1001 := by unfold lq_folderOf qv_folderOf F_X7_folderOf; rw [dK_ok h, bn_e, if_pos rfl, if_neg hp, if_neg hp2]; rfl
theorem z_rank {k : Int32} (h : inR 0 999 k = false) : lq_rank q k = -1001 := by unfold lq_rank qv_rank F_X7_rank; rw [dK_no h]; rfl
theorem z_rankAgain {k : Int32} (h : inR 0 999 k = false) : lq_rankAgain q k = -1001 := by unfold lq_rankAgain qv_rankAgain F_X7_rankAgain; rw [dK_no h]; rfl
theorem z_steps {k : Int32} (h : inR 0 999 k = false) : lq_steps q k = -1001 := by unfold lq_steps qv_steps F_X7_steps; rw [dK_no h]; rfl
theorem z_stepsAgain {k : Int32} (h : inR 0 999 k = false) : lq_stepsAgain q k = -1001 := by unfold lq_stepsAgain qv_stepsAgain F_X7_stepsAgain; rw [dK_no h]; rfl
theorem z_placeOf {k p : Int32} (h : inR 0 999 k = false) : lq_placeOf q k p = -1001 := by unfold lq_placeOf qv_placeOf F_X7_placeOf; rw [dK_no h]; rfl
theorem z_placeOf2 {k p : Int32} (h : inR 0 999 k = true) (hp : p < 0) : lq_placeOf q k p = -1002 := by unfold lq_placeOf qv_placeOf F_X7_placeOf; rw [dK_ok h, bn_e, if_pos rfl, if_pos hp]; rfl
theorem z_falls {k : Int32} (h : inR 0 999 k = false) : lq_falls q k = -1001 := by unfold lq_falls qv_falls F_X7_falls; rw [dK_no h]; rfl
theorem z_floor {k : Int32} (h : inR 0 999 k = false) : lq_floor q k = -1001 := by unfold lq_floor qv_floor F_X7_floor; rw [dK_no h]; rfl
theorem z_ceiling {k : Int32} (h : inR 0 999 k = false) : lq_ceiling q k = -1001 := by unfold lq_ceiling qv_ceiling F_X7_ceiling; rw [dK_no h]; rfl
theorem z_count {k p : Int32} (h : rR k p = false) : lq_count q k p = -1001 := by unfold lq_count qv_count F_X7_count; rw [dR_no h]; rfl
theorem z_countAgain {k p : Int32} (h : rR k p = false) : lq_countAgain q k p = -1001 := by unfold lq_countAgain qv_countAgain F_X7_countAgain; rw [dR_no h]; rfl
theorem z_weightIn {k p : Int32} (h : rR k p = false) : lq_weightIn q k p = -1001 := by unfold lq_weightIn qv_weightIn F_X7_weightIn; rw [dR_no h]; rfl
theorem z_heaviestIn {k p : Int32} (h : rR k p = false) : lq_heaviestIn q k p = -1001 := by unfold lq_heaviestIn qv_heaviestIn F_X7_heaviestIn; rw [dR_no h]; rfl
theorem z_levelSize {k : Int32} (h : inR 0 4 k = false) : lq_levelSize q k = -1001 := by unfold lq_levelSize qv_levelSize F_X7_levelSize; rw [dL_no h]; rfl
theorem z_levelAt {k p : Int32} (h : inR 0 4 k = false) : lq_levelAt q k p = -1001 := by unfold lq_levelAt qv_levelAt F_X7_levelAt; rw [dL_no h]; rfl
theorem z_levelAt2 {k p : Int32} (h : inR 0 4 k = true) (hp : p < 0) : lq_levelAt q k p = -1002 := by unfold lq_levelAt qv_levelAt F_X7_levelAt; rw [dL_ok h, bn_e, if_pos rfl, if_pos hp]; rfl
theorem z_levelAt3 {k : Int32} {n : Nat} (hn : n ≤ 24) (hq : q.1 = nI n) (h : inR 0 4 k = true) : lq_levelAt q k (nI n) = -1002 := by
  unfold lq_levelAt qv_levelAt F_X7_levelAt
  rw [dL_ok h, bn_e, if_pos rfl, if_neg (nI_nlt0 (by omega)), hq, p_foldersOn hn (Nat.le_refl 2000), bn_e, if_neg (nI_nlt (ct_le (rg n q.2.2.2.2.1 k) n) (by omega))]
  rfl
theorem z_span {k p : Int32} (h : inR 0 4 p = false) : lq_span q k p = -1001 := by unfold lq_span qv_span F_X7_span; rw [dL_no h]; rfl
theorem z_span2 {k p : Int32} (h : inR 0 4 p = true) (hk : inR 0 999 k = false) : lq_span q k p = -1002 := by unfold lq_span qv_span F_X7_span; rw [dL_ok h, bn_e, if_pos rfl, dK_no hk]; rfl
theorem z_headSpan {k : Int32} (h : inR 0 4 k = false) : lq_headSpan q k = -1001 := by unfold lq_headSpan qv_headSpan F_X7_headSpan; rw [dL_no h]; rfl
theorem z_isForgotten {k : Int32} (h : inR 0 4 k = false) : lq_isForgotten q k = -1001 := by unfold lq_isForgotten qv_isForgotten F_X7_isForgotten; rw [dL_no h]; rfl
theorem z_reason3 {rs dt ix : Int32} : lq_reason rs dt ix 3 = -1001 := by unfold lq_reason qv_reason F_X7_reason; rfl
theorem z_reasonM {rs dt ix : Int32} : lq_reason rs dt ix (-1) = -1001 := by unfold lq_reason qv_reason F_X7_reason; rfl
theorem z_account10 {u le : Int32} : lq_account q u le 10 = -1001 := by unfold lq_account qv_account F_X7_account; rfl
theorem z_accountM {u le : Int32} : lq_account q u le (-1) = -1001 := by unfold lq_account qv_account F_X7_account; rfl
theorem z_r1 {dt ix : Int32} : lq_reason 1 dt ix 0 = 1 ∧ lq_reason 1 dt ix 1 = dt ∧ lq_reason 1 dt ix 2 = ix := by unfold lq_reason qv_reason F_X7_reason; exact ⟨rfl, rfl, rfl⟩
theorem z_r4 {dt ix : Int32} : lq_reason 4 dt ix 0 = 4 ∧ lq_reason 4 dt ix 1 = dt ∧ lq_reason 4 dt ix 2 = ix := by unfold lq_reason qv_reason F_X7_reason; exact ⟨rfl, rfl, rfl⟩
theorem z_r7 {dt ix : Int32} : lq_reason 7 dt ix 0 = 7 ∧ lq_reason 7 dt ix 1 = dt ∧ lq_reason 7 dt ix 2 = ix := by unfold lq_reason qv_reason F_X7_reason; exact ⟨rfl, rfl, rfl⟩
theorem z_r3 {dt ix : Int32} : lq_reason 3 dt ix 0 = 3 ∧ lq_reason 3 dt ix 1 = dt ∧ lq_reason 3 dt ix 2 = ix := by unfold lq_reason qv_reason F_X7_reason; exact ⟨rfl, rfl, rfl⟩
theorem z_keyM {n : Nat} (hq : q.1 = nI n) : lq_keyAt q (-1) = -1001 := by
  unfold lq_keyAt qv_keyAt F_X7_keyAt
  rw [hq, p_keyOrNoneH]
  rfl
theorem z_key {n j : Nat} (hn : n ≤ 24) (hq : q.1 = nI n) (hj : j < n) : lq_keyAt q (nI j) = q.2.2.1 j := by
  unfold lq_keyAt qv_keyAt F_X7_keyAt
  rw [hq, p_keyOrNone hn (by omega), if_pos hj]
  rfl
theorem z_keyn {n : Nat} (hn : n ≤ 24) (hq : q.1 = nI n) : lq_keyAt q (nI n) = -1001 := by
  unfold lq_keyAt qv_keyAt F_X7_keyAt
  rw [hq, p_keyOrNone hn (by omega), if_neg (Nat.lt_irrefl n)]
  try rfl
theorem z_weight {n j : Nat} {k : Int32} (hn : n ≤ 24) (hq : q.1 = nI n) (hk : inR 0 999 k = true) (hp : pw n q.2.2.1 k = some j) (hj : j < n) : lq_folderOf q k 0 = q.2.2.2.1 j := by
  have e : F_X7_demandFolder 2000 (nI n) q.2.2.1 k = some (0, nI j) := by rw [p_demandFolder hn (Nat.le_refl 2000), hp]
  have F : F_X7_folderOf 2000 q.1 q.2.1 q.2.2.1 q.2.2.2.1 q.2.2.2.2.1 0 0 0 0 0 k 0 = some (0, q.2.2.2.1 j, 0, 0, 0, 0, 0) := by
    unfold F_X7_folderOf
    rw [dK_ok hk, bn_e, if_pos rfl, if_neg (show ¬ (0 : Int32) < 0 by decide), if_pos (show (0 : Int32) ≤ 3 by decide), hq, e, bn2_e, if_pos rfl, if_pos rfl, p_weightOf hn (by omega), bn_e, if_pos hj]
  unfold lq_folderOf qv_folderOf
  rw [F]
  rfl
end ZZ
