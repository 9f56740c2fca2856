/-! orders: what each does to weights, what it answers; orders as functions of the ghost -/
variable {fl n : Nat} {ks ws ts a : Nat → Int32} {key lev hid cn ct' ch : Int32} {k w we ru rs dt ix an x3 d0 sg no : Int32}
theorem nI_ge0 {j : Nat} (h : j < 2 ^ 31) : (0 : Int32) ≤ nI j := (nlt_iff_le _ _).mp (nI_nlt0 h)
/-- weights from 0 to 99 -/
def WG (n : Nat) (ws : Nat → Int32) : Prop := ∀ j, j < n → ∃ w, w ≤ 99 ∧ ws j = nI w
theorem inR_w {x : Int32} (h : inR 0 99 x = true) : ∃ k, k ≤ 99 ∧ x = nI k := by
  obtain ⟨k, -, h2, h3⟩ := inR_n (lo := 0) (hi := 99) h (by decide) (by decide)
  exact ⟨k, h2, h3⟩
theorem WG_ins {p : Nat} (h : WG n ws) (hw : inR 0 99 we = true) (hp : p ≤ n) : WG (n + 1) (ins ws p n we) := by
  intro j hj
  by_cases c : j = p
  · obtain ⟨q, h1, h2⟩ := inR_w hw
    refine ⟨q, h1, ?_⟩
    unfold ins
    rw [upd_s c, h2]
  · unfold ins upd sh
    rw [if_neg c]
    by_cases c2 : p < j ∧ j ≤ n
    · rw [if_pos c2]; exact h (j - 1) (by omega)
    · rw [if_neg c2]; exact h j (by omega)
theorem WG_del {p : Nat} (h : WG (n + 1) ws) : WG n (dl ws p n) := by
  intro j hj
  unfold dl
  by_cases c : p ≤ j ∧ j < n
  · rw [if_pos c]; exact h (j + 1) (by omega)
  · rw [if_neg c]; exact h j (by omega)
theorem WG_upd {p : Nat} (h : WG n ws) (hw : inR 0 99 we = true) : WG n (upd ws p we) := by
  intro j hj
  by_cases c : j = p
  · obtain ⟨q, h1, h2⟩ := inR_w hw
    exact ⟨q, h1, by rw [upd_s c, h2]⟩
  · unfold upd
    rw [if_neg c]; exact h j hj
/-- an order that isn't refused answers no number below 0 and keeps weights weights -/
def CK (fl n : Nat) (hid : Int32) (ks ws ts : Nat → Int32) (cn ct ch sg no we ru : Int32) : Prop := WG n ws → ∀ d v z' hid' ks' ws' ts' cn' ct'' ch', F_X0_reasonAgainst fl 0 (nI n) hid ks ws ts sg no we ru = some (0, d) → F_X0_carryOut fl (nI n) hid ks ws ts cn ct ch sg no we ru = some (v, z', hid', ks', ws', ts', cn', ct'', ch') → 0 ≤ v ∧ WG z'.toNatClampNeg ws'
theorem CK_i (h : WG n ws → ∀ d v z' hid' ks' ws' ts' cn' ct'' ch', F_X0_reasonAgainst fl 0 (nI n) hid ks ws ts sg no we ru = some (0, d) → F_X0_carryOut fl (nI n) hid ks ws ts cn ct' ch sg no we ru = some (v, z', hid', ks', ws', ts', cn', ct'', ch') → 0 ≤ v ∧ WG z'.toNatClampNeg ws') : CK fl n hid ks ws ts cn ct' ch sg no we ru := h
theorem fi_t {A : Type} {d x : A} {r : Int32} (hr : r ≠ 0) (h : some (r, x) = some ((0 : Int32), d)) : False := hr (Prod.mk.inj (Option.some.inj h)).1
theorem k_file (hf : 2000 ≤ fl) (hl : LI n ks ts hid) (hM : MR n ks ws ts cn ct' ch hid a) : CK fl n hid ks ws ts cn ct' ch 43 k w 1 := by
  intro hW d v z' hid' ks' ws' ts' cn' ct'' ch' e1 e2
  have hn := hl.1
  rw [e_43, p_filing hn hf] at e1
  by_cases c : inR 0 999 k = true ∧ inR 0 99 w = true ∧ inR 1 5 1 = true
  · rw [if_pos c] at e1
    cases e : pw n ks k with
    | some j => rw [e] at e1; exact absurd (Prod.mk.inj (Option.some.inj e1)).1 (by decide)
    | none =>
      by_cases c4 : n < 24
      · obtain ⟨t, u, v2, z, a', g1, g2, g3, g4, g5⟩ := r_tower (fl := fl) (rs := 0) (dt := 0) (ix := 0) (an := 0) (k := k) (w := w) (x3 := 0) c4 hf 4 1 fl fl cn ct' ch a (by omega) (by omega) (by omega) (by omega) hM
        rw [c_43 hn hf] at e2
        unfold F_X0_insertByCoins F_X3_coin F_X4_number F_X4_weight F_X1_throwTower at e2
        rw [bn_e, l1, g1, bn4_e, bn_e, bn_e, p_insert c4 hf, bn4_e, bn8_e] at e2
        obtain ⟨i1, i2, i3, i4, i5, i6, i7, i8, i9⟩ := inj9 e2
        rw [← i1, ← i2, ← i5, nI_clamp (by omega)]
        exact ⟨nI_ge0 (by omega), WG_ins hW c.2.1 lw_le⟩
      · rw [e] at e1
        have e1 : (if n < 24 then some ((0 : Int32), (0 : Int32)) else some (2, 24)) = some (0, d) := e1
        rw [if_neg c4] at e1
        exact absurd (Prod.mk.inj (Option.some.inj e1)).1 (by decide)
  · rw [if_neg c] at e1
    exact absurd (Prod.mk.inj (Option.some.inj e1)).1 (by decide)
theorem k_fileTall (hf : 2000 ≤ fl) (hl : LI n ks ts hid) : CK fl n hid ks ws ts cn ct' ch 94 k w ru := by
  intro hW d v z' hid' ks' ws' ts' cn' ct'' ch' e1 e2
  have hn := hl.1
  rw [e_94, p_filing hn hf] at e1
  by_cases c : inR 0 999 k = true ∧ inR 0 99 w = true ∧ inR 1 5 ru = true
  · rw [if_pos c] at e1
    cases e : pw n ks k with
    | some j => rw [e] at e1; exact absurd (Prod.mk.inj (Option.some.inj e1)).1 (by decide)
    | none =>
      by_cases c4 : n < 24
      · rw [c_94 hn hf, p_insert c4 hf, bn4_e, p_lowerKeys (by omega) hf, bn_e] at e2
        obtain ⟨i1, i2, i3, i4, i5, i6, i7, i8, i9⟩ := inj9 e2
        rw [← i1, ← i2, ← i5, nI_clamp (by omega)]
        have := lw_le (n := n + 1) (ks := ins ks (lw n ks k) n k) (key := k)
        exact ⟨nI_ge0 (by omega), WG_ins hW c.2.1 lw_le⟩
      · rw [e] at e1
        have e1 : (if n < 24 then some ((0 : Int32), (0 : Int32)) else some (2, 24)) = some (0, d) := e1
        rw [if_neg c4] at e1
        exact absurd (Prod.mk.inj (Option.some.inj e1)).1 (by decide)
  · rw [if_neg c] at e1
    exact absurd (Prod.mk.inj (Option.some.inj e1)).1 (by decide)
theorem p_fold1 (hn : n ≤ 24) (hf : 2000 ≤ fl) (hs : okC sg = true) {d : Int32} (h : F_X0_againstFolder fl d0 (nI n) ks ws ts sg k we = some (0, d)) : inR 0 999 k = true ∧ inR 0 99 we = true ∧ ∃ j, pw n ks k = some j ∧ (if sg = 119 then F_X0_againstWeight fl d0 we (ws j) else F_X0_againstTower fl d0 sg (ts j)) = some (0, d) := by
  rw [p_folder hn hf hs] at h
  by_cases c : inR 0 999 k = true ∧ inR 0 99 we = true
  · rw [if_pos c] at h
    cases e : pw n ks k with
    | some j => rw [e] at h; exact ⟨c.1, c.2, j, rfl, h⟩
    | none => rw [e] at h; exact absurd (Prod.mk.inj (Option.some.inj h)).1 (by decide)
  · rw [if_neg c] at h
    exact absurd (Prod.mk.inj (Option.some.inj h)).1 (by decide)
theorem k_drop (hf : 2000 ≤ fl) (hl : LI n ks ts hid) : CK fl n hid ks ws ts cn ct' ch 45 k we ru := by
  intro hW d v z' hid' ks' ws' ts' cn' ct'' ch' e1 e2
  have hn := hl.1
  rw [e_45] at e1
  obtain ⟨c1, c2, j, e, -⟩ := p_fold1 hn hf (by decide) e1
  obtain ⟨hj, -, -⟩ := pw_some e
  obtain ⟨n, rfl⟩ : ∃ q, n = q + 1 := ⟨n - 1, by omega⟩
  unfold F_X0_carryOut F_X4_number at e2
  rw [bn_e, p_placeWith hn hf, e, bn_e, okc (by decide), bn_e, if_neg (by decide), if_pos rfl] at e2
  have e2 : bn4 (F_X3_remove fl (nI (n + 1)) ks ws ts (nI j)) _ = _ := e2
  rw [p_remove (by omega) hf (by omega), bn4_e] at e2
  unfold F_X3_size at e2
  rw [bn_e] at e2
  obtain ⟨i1, i2, i3, i4, i5, i6, i7, i8, i9⟩ := inj9 e2
  rw [← i1, ← i2, ← i5, nI_clamp (by omega)]
  exact ⟨nI_ge0 (by omega), WG_del hW⟩
theorem k_raise (hf : 2000 ≤ fl) (hl : LI n ks ts hid) : CK fl n hid ks ws ts cn ct' ch 117 k we ru := by
  intro hW d v z' hid' ks' ws' ts' cn' ct'' ch' e1 e2
  have hn := hl.1
  rw [e_117] at e1
  obtain ⟨c1, c2, j, e, -⟩ := p_fold1 hn hf (by decide) e1
  obtain ⟨hj, -, -⟩ := pw_some e
  obtain ⟨t, h1, h5, ht⟩ := hl.2.2.1 j hj
  unfold F_X0_carryOut F_X4_number at e2
  rw [bn_e, p_placeWith hn hf, e, bn_e, okc (by decide), bn_e, if_neg (by decide), if_neg (by decide), if_neg (by decide), if_neg (by decide), if_neg (by decide), if_neg (by decide), if_pos rfl] at e2
  have e2 : bn4 (F_X0_changeTower fl (nI n) ks ws ts (nI j) 1) _ = _ := e2
  rw [p_changeTower hn hj, bn4_e, ht, nI_1] at e2
  obtain ⟨i1, i2, i3, i4, i5, i6, i7, i8, i9⟩ := inj9 e2
  rw [← i1, ← i2, ← i5, nI_clamp (by omega)]
  exact ⟨nI_ge0 (by omega), hW⟩
theorem k_lower (hf : 2000 ≤ fl) (hl : LI n ks ts hid) : CK fl n hid ks ws ts cn ct' ch 100 k we ru := by
  intro hW d v z' hid' ks' ws' ts' cn' ct'' ch' e1 e2
  have hn := hl.1
  rw [e_100] at e1
  obtain ⟨c1, c2, j, e, -⟩ := p_fold1 hn hf (by decide) e1
  obtain ⟨hj, -, -⟩ := pw_some e
  obtain ⟨t, h1, h5, ht⟩ := hl.2.2.1 j hj
  obtain ⟨t, rfl⟩ : ∃ q, t = q + 1 := ⟨t - 1, by omega⟩
  unfold F_X0_carryOut F_X4_number at e2
  rw [bn_e, p_placeWith hn hf, e, bn_e, okc (by decide), bn_e, if_neg (by decide), if_neg (by decide), if_neg (by decide), if_pos rfl] at e2
  have e2 : bn4 (F_X0_changeTower fl (nI n) ks ws ts (nI j) (-1)) _ = _ := e2
  rw [p_changeTower hn hj, bn4_e, ht, nI_m1] at e2
  obtain ⟨i1, i2, i3, i4, i5, i6, i7, i8, i9⟩ := inj9 e2
  rw [← i1, ← i2, ← i5, nI_clamp (by omega)]
  exact ⟨nI_ge0 (by omega), hW⟩
theorem k_weigh (hf : 2000 ≤ fl) (hl : LI n ks ts hid) : CK fl n hid ks ws ts cn ct' ch 119 k we ru := by
  intro hW d v z' hid' ks' ws' ts' cn' ct'' ch' e1 e2
  have hn := hl.1
  rw [e_119] at e1
  obtain ⟨c1, c2, j, e, -⟩ := p_fold1 hn hf (by decide) e1
  obtain ⟨hj, -, -⟩ := pw_some e
  unfold F_X0_carryOut F_X4_number F_X4_weight at e2
  rw [bn_e, p_placeWith hn hf, e, bn_e, okc (by decide), bn_e, if_neg (by decide), if_neg (by decide), if_neg (by decide), if_neg (by decide), if_neg (by decide), if_neg (by decide), if_neg (by decide), if_pos rfl, bn_e] at e2
  have e2 : bn4 (F_X0_changeWeight fl (nI n) ks ws ts (nI j) we) _ = _ := e2
  rw [p_changeWeight hn hj, bn4_e] at e2
  obtain ⟨i1, i2, i3, i4, i5, i6, i7, i8, i9⟩ := inj9 e2
  obtain ⟨x, hx, ex⟩ := hW j hj
  rw [← i1, ← i2, ← i5, nI_clamp (by omega), ex]
  exact ⟨nI_ge0 (by omega), WG_upd hW c2⟩
theorem k_toss (hf : 2000 ≤ fl) (hl : LI n ks ts hid) : CK fl n hid ks ws ts cn ct' ch 116 k we ru := by
  intro hW d v z' hid' ks' ws' ts' cn' ct'' ch' e1 e2
  have hn := hl.1
  have ec : F_X0_carryOut fl (nI n) hid ks ws ts cn ct' ch 116 k we ru = some ((if hd (fw cn) then 1 else 0), nI n, hid, ks, ws, ts, fw cn, ct' + 1, (if hd (fw cn) then ch + 1 else ch)) := by
    unfold F_X0_carryOut F_X4_number F_X3_coin
    rw [bn_e, p_placeWith hn hf, bn_e, okc (by decide), bn_e, if_neg (by decide), if_neg (by decide), if_neg (by decide), if_neg (by decide), if_neg (by decide), if_neg (by decide), if_neg (by decide), if_neg (by decide), bn_e, p_throwIt]
    by_cases c : hd (fw cn) = true
    · rw [if_pos c, if_pos c, if_pos c, bn4_e, if_neg (by decide)]
    · rw [if_neg c, if_neg c, if_neg c, bn4_e, if_pos rfl]
  rw [ec] at e2
  obtain ⟨i1, i2, i3, i4, i5, i6, i7, i8, i9⟩ := inj9 e2
  rw [← i1, ← i2, ← i5, nI_clamp (by omega)]
  refine ⟨?_, hW⟩
  cases hd (fw cn) <;> decide
theorem k_forget (hf : 2000 ≤ fl) (hl : LI n ks ts hid) : CK fl n hid ks ws ts cn ct' ch 102 k we ru := by
  intro hW d v z' hid' ks' ws' ts' cn' ct'' ch' e1 e2
  have hn := hl.1
  rw [c_102 hn hf] at e2
  obtain ⟨i1, i2, i3, i4, i5, i6, i7, i8, i9⟩ := inj9 e2
  have := ct_le (rg n ts k) n
  rw [← i1, ← i2, ← i5, nI_clamp (by omega)]
  exact ⟨nI_ge0 (by omega), hW⟩
theorem k_recall (hf : 2000 ≤ fl) (hl : LI n ks ts hid) : CK fl n hid ks ws ts cn ct' ch 114 k we ru := by
  intro hW d v z' hid' ks' ws' ts' cn' ct'' ch' e1 e2
  have hn := hl.1
  rw [c_114 hn hf] at e2
  obtain ⟨i1, i2, i3, i4, i5, i6, i7, i8, i9⟩ := inj9 e2
  have := ct_le (rg n ts k) n
  rw [← i1, ← i2, ← i5, nI_clamp (by omega)]
  exact ⟨nI_ge0 (by omega), hW⟩
/-- an order that a text tells -/
theorem k_text {od : Int32} {told : Nat → Int32} (hf : 2000 ≤ fl) (hl : LI n ks ts hid) (hM : MR n ks ws ts cn ct' ch hid a) (hO : ORD sg no we ru od told) : CK fl n hid ks ws ts cn ct' ch sg no we ru := by
  rcases hO with ⟨rfl, rfl, g, rfl, rfl, rfl⟩ | ⟨rfl, rfl, g, rfl, rfl, rfl⟩ | ⟨rfl, g, rfl, rfl⟩ | ⟨rfl, rfl⟩ | ⟨rfl, rfl, rfl, rfl⟩
  · exact k_file hf hl hM
  · exact k_fileTall hf hl
  · rcases g with rfl | rfl | rfl | rfl | rfl
    · exact k_drop hf hl
    · exact k_lower hf hl
    · exact k_raise hf hl
    · exact k_forget hf hl
    · exact k_recall hf hl
  · exact k_toss hf hl
  · exact k_weigh hf hl
/-- orders as functions of the ghost -/
def ordR (q : Lad) (sg no we ru : Int32) : Int32 × Int32 := match F_X0_reasonAgainst 2000 0 q.1 q.2.1 q.2.2.1 q.2.2.2.1 q.2.2.2.2.1 sg no we ru with | some x => x | none => (0, 0)
def ordC (q : Lad) (sg no we ru : Int32) : Int32 × Lad := match F_X0_carryOut 2000 q.1 q.2.1 q.2.2.1 q.2.2.2.1 q.2.2.2.2.1 q.2.2.2.2.2.1 q.2.2.2.2.2.2.1 q.2.2.2.2.2.2.2 sg no we ru with | some (v, z, hid, ks, ws, ts, cn, ct, ch) => (v, NRM z hid ks ws ts cn ct ch) | none => (0, q)
/-- a ladder that may be: some row of the reference holds it, its weights are weights -/
def GL (q : Lad) : Prop := (∃ a, LLg q a) ∧ WG q.1.toNatClampNeg q.2.2.2.1
theorem GL_i {z : Int32} (h : LL z hid ks ws ts cn ct' ch a) (hW : WG z.toNatClampNeg ws) : GL (NRM z hid ks ws ts cn ct' ch) := by
  refine ⟨⟨a, LLg_cut h⟩, ?_⟩
  obtain ⟨n, rfl, hl, -⟩ := h
  have hn := hl.1
  intro j hj
  have hj : j < n := by rw [show ((nI n, hid, cut (nI n) ks, cut (nI n) ws, cut (nI n) ts, cn, ct', ch) : Lad).1.toNatClampNeg = (nI n).toNatClampNeg from rfl, nI_clamp (by omega)] at hj; exact hj
  obtain ⟨w, h1, h2⟩ := hW j (by rw [nI_clamp (by omega)]; exact hj)
  exact ⟨w, h1, (cut_n hn hj).trans h2⟩
theorem GL_w {z : Int32} (h : GL (NRM z hid ks ws ts cn ct' ch)) (hL : LL z hid ks ws ts cn ct' ch a) : WG z.toNatClampNeg ws := by
  obtain ⟨n, rfl, hl, -⟩ := hL
  have hn := hl.1
  intro j hj
  obtain ⟨w, h1, h2⟩ := h.2 j hj
  rw [nI_clamp (by omega)] at hj
  exact ⟨w, h1, (cut_n hn hj).symm.trans h2⟩
/-- an order on a ladder: refused for a reason that the ghost tells, or carried out as the ghost tells -/
theorem n_ord {Q : Option (Int32 × Int32 × Int32 × Int32 × Int32 × (Nat → Int32))} (hn : n ≤ 24) (hK : CK 2000 n hid ks ws ts cn ct' ch sg no we ru) (hW : WG n ws) (h1 : CM 2000 n hid ks ws ts cn ct' ch sg no we ru rs dt ix an a Q) (h2 : CM 2000 n hid (cut (nI n) ks) (cut (nI n) ws) (cut (nI n) ts) cn ct' ch sg no we ru rs dt ix an a Q) :
    (∃ r d, r ≠ 0 ∧ F_X0_reasonAgainst 2000 0 (nI n) hid ks ws ts sg no we ru = some (r, d) ∧ ordR (NRM (nI n) hid ks ws ts cn ct' ch) sg no we ru = (r, d)) ∨
    ∃ d v z' hid' ks' ws' ts' cn' ct'' ch' a', F_X0_reasonAgainst 2000 0 (nI n) hid ks ws ts sg no we ru = some (0, d) ∧ F_X0_carryOut 2000 (nI n) hid ks ws ts cn ct' ch sg no we ru = some (v, z', hid', ks', ws', ts', cn', ct'', ch') ∧ (ordR (NRM (nI n) hid ks ws ts cn ct' ch) sg no we ru).1 = 0 ∧ ordC (NRM (nI n) hid ks ws ts cn ct' ch) sg no we ru = (v, NRM z' hid' ks' ws' ts' cn' ct'' ch') ∧ LL z' hid' ks' ws' ts' cn' ct'' ch' a' ∧ 0 ≤ v ∧ WG z'.toNatClampNeg ws' := by
  have eR : ∀ x, F_X0_reasonAgainst 2000 0 (nI n) hid (cut (nI n) ks) (cut (nI n) ws) (cut (nI n) ts) sg no we ru = some x → ordR (NRM (nI n) hid ks ws ts cn ct' ch) sg no we ru = x := by
    intro x hx
    show (match F_X0_reasonAgainst 2000 0 (nI n) hid (cut (nI n) ks) (cut (nI n) ws) (cut (nI n) ts) sg no we ru with | some x => x | none => (0, 0) : Int32 × Int32) = x
    rw [hx]
  rcases h1 with ⟨r, d, h0, h3, h4⟩ | ⟨d, v, z', hid', ks', ws', ts', cn', ct'', ch', a', h3, h4, h5, h6⟩ <;> rcases h2 with ⟨r2, d2, g0, g3, g4⟩ | ⟨d2, v2, z2, hid2, ks2, ws2, ts2, cn2, ct2, ch2, a2, g3, g4, g5, g6⟩
  · left
    obtain ⟨-, i1, i2, -, -, -⟩ := inj6 (h4.symm.trans g4)
    exact ⟨r, d, h0, h3, by rw [eR _ g3, i1, i2]⟩
  · exact absurd (inj6 (h4.symm.trans g5)).1 (by decide)
  · exact absurd (inj6 (h5.symm.trans g4)).1 (by decide)
  · right
    obtain ⟨-, -, -, -, i1, i2⟩ := inj6 (h5.symm.trans g5)
    rw [← i2] at g6
    obtain ⟨k1, k2⟩ := hK hW _ _ _ _ _ _ _ _ _ _ h3 h4
    refine ⟨d, v, z', hid', ks', ws', ts', cn', ct'', ch', a', h3, h4, by rw [eR _ g3], ?_, h6, k1, k2⟩
    show (match F_X0_carryOut 2000 (nI n) hid (cut (nI n) ks) (cut (nI n) ws) (cut (nI n) ts) cn ct' ch sg no we ru with | some (v, z, hid, ks, ws, ts, cn, ct, ch) => (v, NRM z hid ks ws ts cn ct ch) | none => (0, NRM (nI n) hid ks ws ts cn ct' ch) : Int32 × Lad) = _
    rw [g4]
    show (v2, NRM z2 hid2 ks2 ws2 ts2 cn2 ct2 ch2) = _
    rw [← i1, NRM_a g6 h6]
