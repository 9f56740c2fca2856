/-! the law's own texts -/
variable {n : Nat} {ks ws ts a tx : Nat → Int32} {key lev hid cn ct' ch z : Int32} {rs dt ix d0 de o1 o2 o3 o4 : Int32}
variable {TX TY : Nat → Int32} {M : Nat}
theorem dig_c (h : ∀ j, j < M → TX j = TY j) (q : Nat) : dig M TX q = dig M TY q := by
  unfold dig
  by_cases c : q < M
  · rw [h q c]
  · rw [decide_eq_false (fun z => c z.1), decide_eq_false (fun z => c z.1)]
theorem hs_c (h : ∀ j, j < M → TX j = TY j) (q : Nat) (c : Int32) : hs M TX q c = hs M TY q c := by
  unfold hs
  by_cases d : q < M
  · rw [h q d]
  · rw [decide_eq_false (fun z => d z.1), decide_eq_false (fun z => d z.1)]
theorem rn_c (h : ∀ j, j < M → TX j = TY j) : ∀ (r q : Nat) (v : Int32), rn M TX r q v = rn M TY r q v := by
  intro r
  induction r with
  | zero => intro q v; rfl
  | succ r ih =>
    intro q v
    rw [rn, rn, dig_c h]
    by_cases c : dig M TY q = true
    · rw [if_pos c, if_pos c, h q (of_decide_eq_true c).1, ih]
    · rw [if_neg c, if_neg c]
theorem nv_c (h : ∀ j, j < M → TX j = TY j) (L q : Nat) : nv M TX L q = nv M TY L q := by unfold nv; rw [rn_c h]
theorem nq_c (h : ∀ j, j < M → TX j = TY j) (L q : Nat) : nq M TX L q = nq M TY L q := by unfold nq; rw [rn_c h]
theorem kwB_c (h : ∀ j, j < M → TX j = TY j) (q : Nat) : kwB M TX q = kwB M TY q := by simp only [kwB, nq_c h, hs_c h]
theorem kwQ_c (h : ∀ j, j < M → TX j = TY j) (q : Nat) : kwQ M TX q = kwQ M TY q := by simp only [kwQ, nq_c h, hs_c h]
theorem oB_c (h : ∀ j, j < M → TX j = TY j) (q : Nat) : oB M TX q = oB M TY q := by
  unfold oB
  by_cases c : q < M
  · simp only [if_pos c, h q c, kwB_c h, kwQ_c h, hs_c h, nq_c h]
  · rw [if_neg c, if_neg c]
theorem oQ_c (h : ∀ j, j < M → TX j = TY j) (q : Nat) : oQ M TX q = oQ M TY q := by
  unfold oQ
  by_cases c : q < M
  · simp only [if_pos c, h q c, kwB_c h, kwQ_c h, hs_c h, nq_c h]
  · rw [if_neg c, if_neg c]
theorem ps_c (h : ∀ j, j < M → TX j = TY j) : ∀ f q, ps M TX f q = ps M TY f q := by
  intro f
  induction f with
  | zero => intro q; rfl
  | succ f ih =>
    intro q
    rw [ps, ps, oB_c h, oQ_c h]
    by_cases e : oQ M TY q < M
    · rw [h _ e, ih]
    · rw [if_neg e, if_neg e]
/-- what an order of a text tells -/
theorem t_116 (hM : M ≤ 60) {q : Nat} (h : q < M) (t : TX q = 116) : F_X5_readOrder 2000 (nI M) (nI q) 0 TX o1 o2 o3 o4 = some (nI (q + 1), 0, 116, 0, 0, 1) := by
  unfold F_X5_readOrder
  rw [p_look hM (by omega), bn_e, if_pos h, t, if_neg (by decide), if_neg (by decide), if_neg (by decide), if_neg (by decide), if_neg (by decide), if_pos rfl]
  unfold F_X4_tell
  rw [gd_e (by decide), bn4_e, nI_1]
theorem t_45 (hM : M ≤ 60) {q : Nat} (h : q < M) (t : TX q = 45) : F_X5_readOrder 2000 (nI M) (nI q) 0 TX o1 o2 o3 o4 = some (nI (nq M TX 3 (q + 1)), (if nq M TX 3 (q + 1) = q + 1 then 1 else 0), 45, nv M TX 3 (q + 1), 0, 1) := by
  unfold F_X5_readOrder
  rw [p_look hM (by omega), bn_e, if_pos h, t, if_neg (by decide), if_pos rfl, nI_1, p_n3 (Nat.le_refl 2000) hM (by omega), bn3_e]
  unfold F_X4_tell
  rw [gd_e (by decide), bn4_e]; rfl
theorem t_102 (hM : M ≤ 60) {q : Nat} (h : q < M) (t : TX q = 102) : F_X5_readOrder 2000 (nI M) (nI q) 0 TX o1 o2 o3 o4 = some (nI (nq M TX 1 (q + 1)), (if nq M TX 1 (q + 1) = q + 1 then 1 else 0), 102, nv M TX 1 (q + 1), 0, 1) := by
  unfold F_X5_readOrder
  rw [p_look hM (by omega), bn_e, if_pos h, t, if_neg (by decide), if_neg (by decide), if_neg (by decide), if_pos rfl, nI_1, p_n1 (Nat.le_refl 2000) hM (by omega), bn3_e]
  unfold F_X4_tell
  rw [gd_e (by decide), bn4_e]; rfl
theorem c_116 (hn : n ≤ 24) {k we ru : Int32} : F_X0_carryOut 2000 (nI n) hid ks ws ts cn ct' ch 116 k we ru = some ((if hd (fw cn) then 1 else 0), nI n, hid, ks, ws, ts, fw cn, ct' + 1, (if hd (fw cn) then ch + 1 else ch)) := by
  unfold F_X0_carryOut F_X4_number F_X3_coin
  rw [bn_e, p_placeWith hn (Nat.le_refl 2000), bn_e, okc (by decide), bn_e, if_neg (by decide), if_neg (by decide), if_neg (by decide), if_neg (by decide), if_neg (by decide), if_neg (by decide), if_neg (by decide), if_neg (by decide), bn_e, p_throwIt]
  by_cases c : hd (fw cn) = true
  · rw [if_pos c, if_pos c, if_pos c, bn4_e, if_neg (by decide)]
  · rw [if_neg c, if_neg c, if_neg c, bn4_e, if_pos rfl]
/-- a toss in a text, another order behind it -/
theorem st_t (hM : M ≤ 60) (hn : n ≤ 24) (hc : ∀ j, j < M → okC (TX j) = true) {q k m : Nat} (h : q < M) (t : TX q = 116) (h2 : q + 1 < M) (t2 : TX (q + 1) = 59) (hk : k < 60) : F_X7_carryOutText_11 2000 (nI M) TX (m + 1) (nI n) hid ks ws ts cn ct' ch de rs dt ix o1 o2 o3 o4 (nI q) 0 (nI k) 1 = F_X7_carryOutText_11 2000 (nI M) TX m (nI n) hid ks ws ts (fw cn) (ct' + 1) (if hd (fw cn) then ch + 1 else ch) 0 rs dt ix 116 0 0 1 (nI (q + 2)) 0 (nI (k + 1)) 1 := by
  rw [F_X7_carryOutText_11, if_neg (by decide), if_neg (fun z => by have := (nI_leI (a := 60) (by omega) (by omega)).mp z; omega), t_116 hM h t, bn6_e]
  unfold F_X0_refuses
  rw [e_116, bn2_e, if_pos rfl, bn5_e, if_pos rfl, c_116 hn, bn9_e, p_sep hM (by omega) hc, if_pos h2, if_pos t2, bn3_e, nI_1]
theorem st_f (hM : M ≤ 60) {q k m : Nat} (h : q < M) (t : TX q = 102) (hz : nq M TX 1 (q + 1) ≠ q + 1) (hv : inR 1 4 (nv M TX 1 (q + 1)) = false) (hk : k < 60) : ∃ a1 a2 a3 a4 a5 a6 a7 a8 a9 s1 s2 s3 s4 b1 b2, F_X7_carryOutText_11 2000 (nI M) TX (m + 1) (nI n) hid ks ws ts cn ct' ch de rs dt ix o1 o2 o3 o4 (nI q) 0 (nI k) 1 = some (-1, a1, a2, a3, a4, a5, a6, a7, a8, a9, 1, 0, nI k, s1, s2, s3, s4, b1, b2) := by
  rw [F_X7_carryOutText_11, if_neg (by decide), if_neg (fun z => by have := (nI_leI (a := 60) (by omega) (by omega)).mp z; omega), t_102 hM h t, bn6_e]
  unfold F_X0_refuses
  rw [e_102, p_level (by decide), if_neg (by rw [hv]; decide), bn2_e, if_neg (by decide), bn5_e, if_neg (by decide)]
  exact ⟨_, _, _, _, _, _, _, _, _, _, _, _, _, _, _, rfl⟩
/-- t;t;t;f0 -/
def txT (j : Nat) : Int32 := ([116, 59, 116, 59, 116, 59, 102, 48] : List Int32).getD j 0
theorem ps_T (h : ∀ j, j < 8 → tx j = txT j) : ps 8 tx 61 0 = none := (ps_c h 61 0).trans (by decide +kernel)
theorem S_T (hn : n ≤ 24) (h : ∀ j, j < 8 → tx j = txT j) (hc : ∀ j, j < 8 → okC (tx j) = true) {s nu we ru v y2 y3 y7 y8 y9 y10 y11 y12 y13 y14 y15 y16 y17 y18 y19 : Int32} {y4 y5 y6 : Nat → Int32} (e : F_X7_carryOutText_11 2000 (nI 8) tx 2000 (nI n) hid ks ws ts cn ct' ch de rs dt ix s nu we ru 0 0 0 1 = some (v, y2, y3, y4, y5, y6, y7, y8, y9, y10, y11, y12, y13, y14, y15, y16, y17, y18, y19)) : v = -1 ∧ y11 = 1 ∧ y12 = 0 ∧ y13 = 3 := by
  have e : F_X7_carryOutText_11 2000 (nI 8) tx (1999 + 1) (nI n) hid ks ws ts cn ct' ch de rs dt ix s nu we ru (nI 0) 0 (nI 0) 1 = _ := e
  rw [st_t (by decide) hn hc (by decide) ((h 0 (by decide)).trans rfl) (by decide) ((h 1 (by decide)).trans rfl) (by decide)] at e
  have e : F_X7_carryOutText_11 2000 (nI 8) tx (1998 + 1) (nI n) hid ks ws ts _ _ _ _ _ _ _ _ _ _ _ (nI 2) 0 (nI 1) 1 = _ := e
  rw [st_t (by decide) hn hc (by decide) ((h 2 (by decide)).trans rfl) (by decide) ((h 3 (by decide)).trans rfl) (by decide)] at e
  have e : F_X7_carryOutText_11 2000 (nI 8) tx (1997 + 1) (nI n) hid ks ws ts _ _ _ _ _ _ _ _ _ _ _ (nI 4) 0 (nI 2) 1 = _ := e
  rw [st_t (by decide) hn hc (by decide) ((h 4 (by decide)).trans rfl) (by decide) ((h 5 (by decide)).trans rfl) (by decide)] at e
  have e : F_X7_carryOutText_11 2000 (nI 8) tx (1996 + 1) (nI n) hid ks ws ts _ _ _ _ _ _ _ _ _ _ _ (nI 6) 0 (nI 3) 1 = _ := e
  obtain ⟨a1, a2, a3, a4, a5, a6, a7, a8, a9, s1, s2, s3, s4, b1, b2, g⟩ := st_f (n := n) (hid := hid) (ks := ks) (ws := ws) (ts := ts) (TX := tx) (M := 8) (q := 6) (k := 3) (m := 1996) (cn := fw (fw (fw cn))) (ct' := ct' + 1 + 1 + 1) (ch := if hd (fw (fw (fw cn))) then (if hd (fw (fw cn)) then (if hd (fw cn) then ch + 1 else ch) + 1 else (if hd (fw cn) then ch + 1 else ch)) + 1 else (if hd (fw (fw cn)) then (if hd (fw cn) then ch + 1 else ch) + 1 else (if hd (fw cn) then ch + 1 else ch))) (de := 0) (rs := rs) (dt := dt) (ix := ix) (o1 := 116) (o2 := 0) (o3 := 0) (o4 := 1) (by decide) (by decide) ((h 6 (by decide)).trans rfl) (by rw [nq_c h]; decide +kernel) (by rw [nv_c h]; decide +kernel) (by decide)
  have i := Option.some.inj (g.symm.trans e)
  simp only [Prod.mk.injEq] at i
  exact ⟨i.1.symm, i.2.2.2.2.2.2.2.2.2.2.1.symm, i.2.2.2.2.2.2.2.2.2.2.2.1.symm, i.2.2.2.2.2.2.2.2.2.2.2.2.1.symm⟩
/-- q -/
theorem ps_q (h : tx 0 = 113) : ps 1 tx 61 0 = some 0 := (ps_c (TY := fun _ => 113) (fun j hj => by rw [show j = 0 by omega]; exact h) 61 0).trans (by decide +kernel)
/-- -k;-k -/
def txD (k : Nat) : Nat → Nat := sb_cat (sb_cat (sb_cat (sb_cat (fun _ => 0) 0 (fun _ => 45)) 1 (sb_dec k)) (1 + sb_dg k) (fun i => if i = 0 then 59 else 45)) (1 + sb_dg k + 2) (sb_dec k)
def txN (k : Nat) : Nat := 1 + sb_dg k + 2 + sb_dg k
theorem txD_all : ∀ k : Fin 1000, (txN k.val ≤ 9 ∧ ps (txN k.val) (fun j => nI (txD k.val j)) 61 0 = none ∧ nq (txN k.val) (fun j => nI (txD k.val j)) 3 1 = 1 + sb_dg k.val ∧ nv (txN k.val) (fun j => nI (txD k.val j)) 3 1 = nI k.val ∧ nq (txN k.val) (fun j => nI (txD k.val j)) 3 (sb_dg k.val + 3) = txN k.val ∧ nv (txN k.val) (fun j => nI (txD k.val j)) 3 (sb_dg k.val + 3) = nI k.val) ∧ (1 ≤ sb_dg k.val ∧ txD k.val 0 = 45 ∧ txD k.val (1 + sb_dg k.val) = 59 ∧ txD k.val (2 + sb_dg k.val) = 45) := by decide +kernel
theorem lw_first (hl : LI n ks ts hid) (hn : 0 < n) : pw n ks (ks 0) = some 0 := by
  have e : lw n ks (ks 0) = 0 := lw_eq hl.2.1 (Nat.zero_le n) (fun i hi => absurd hi (Nat.not_lt_zero i)) (fun _ => (le_iff_nlt _ _).mpr (fun h => by rw [Int32.lt_iff_toInt_lt] at h; omega))
  unfold pw
  rw [e, if_pos ⟨hn, rfl⟩]
theorem pw_gone (hl : LI (n + 1) ks ts hid) : pw n (dl ks 0 n) (ks 0) = none := by
  unfold pw
  refine if_neg (fun h => ?_)
  have h1 : lw n (dl ks 0 n) (ks 0) < n := h.1
  have h2 := h.2
  generalize lw n (dl ks 0 n) (ks 0) = j at h1 h2
  unfold dl at h2
  rw [if_pos ⟨Nat.zero_le j, h1⟩] at h2
  have := hl.2.1 0 (j + 1) (by omega) (by omega)
  rw [h2, Int32.lt_iff_toInt_lt] at this
  omega
theorem S_D (hl : LI n ks ts hid) (hn : 0 < n) {k : Nat} (hk : k < 1000) (ek : ks 0 = nI k) (h : ∀ j, j < txN k → tx j = nI (txD k j)) (hc : ∀ j, j < txN k → okC (tx j) = true) {s nu we ru v y2 y3 y7 y8 y9 y10 y11 y12 y13 y14 y15 y16 y17 y18 y19 : Int32} {y4 y5 y6 : Nat → Int32} (e : F_X7_carryOutText_11 2000 (nI (txN k)) tx 2000 (nI n) hid ks ws ts cn ct' ch de rs dt ix s nu we ru 0 0 0 1 = some (v, y2, y3, y4, y5, y6, y7, y8, y9, y10, y11, y12, y13, y14, y15, y16, y17, y18, y19)) : v = -1 ∧ y11 = 3 ∧ y12 = nI k ∧ y13 = 1 := by
  obtain ⟨⟨q1, q2, q3, q4, q5, q6⟩, q7, q8, q9, q10⟩ := txD_all ⟨k, hk⟩
  have q1 : txN k ≤ 9 := q1
  have eN : txN k = 1 + sb_dg k + 2 + sb_dg k := rfl
  have q7 : 1 ≤ sb_dg k := q7
  have hn24 := hl.1
  have iK : inR 0 999 (nI k) = true := nI_inR (lo := 0) (hi := 999) (by omega) (by omega) (by decide)
  have e : F_X7_carryOutText_11 2000 (nI (txN k)) tx (1999 + 1) (nI n) hid ks ws ts cn ct' ch de rs dt ix s nu we ru (nI 0) 0 (nI 0) 1 = _ := e
  obtain ⟨n, rfl⟩ : ∃ q, n = q + 1 := ⟨n - 1, by omega⟩
  have f1 : F_X0_reasonAgainst 2000 0 (nI (n + 1)) hid ks ws ts 45 (nI k) 0 1 = some (0, 0) := by
    rw [e_45, p_folder hn24 (Nat.le_refl 2000) (by decide), if_pos ⟨iK, by decide⟩, ← ek, lw_first hl hn]
    show (if (45 : Int32) = 119 then _ else _) = _
    rw [if_neg (by decide)]
    unfold F_X0_againstTower
    rw [if_neg (by decide), if_neg (by decide), if_pos rfl]
  have f2 : F_X0_carryOut 2000 (nI (n + 1)) hid ks ws ts cn ct' ch 45 (nI k) 0 1 = some (nI n, nI n, hid, dl ks 0 n, dl ws 0 n, dl ts 0 n, cn, ct', ch) := by
    unfold F_X0_carryOut F_X4_number
    rw [bn_e, p_placeWith hn24 (Nat.le_refl 2000), ← ek, lw_first hl hn, bn_e, okc (by decide), bn_e, if_neg (by decide), if_pos rfl]
    show bn4 (F_X3_remove 2000 (nI (n + 1)) ks ws ts (nI 0)) _ = _
    rw [p_remove (by omega) (Nat.le_refl 2000) (by omega), bn4_e]; rfl
  have f3 : F_X0_reasonAgainst 2000 0 (nI n) hid (dl ks 0 n) (dl ws 0 n) (dl ts 0 n) 45 (nI k) 0 1 = some (3, nI k) := by
    rw [e_45, p_folder (by omega) (Nat.le_refl 2000) (by decide), if_pos ⟨iK, by decide⟩, ← ek, pw_gone hl]
  have r1 : F_X5_readOrder 2000 (nI (txN k)) (nI 0) 0 tx s nu we ru = some (nI (1 + sb_dg k), 0, 45, nI k, 0, 1) := by
    rw [t_45 (by omega) (by omega) ((h 0 (by omega)).trans (by rw [show txD k 0 = 45 from q8]; rfl)), nq_c h, nv_c h, show nq (txN k) (fun j => nI (txD k j)) 3 (0 + 1) = 1 + sb_dg k from q3, show nv (txN k) (fun j => nI (txD k j)) 3 (0 + 1) = nI k from q4, if_neg (by omega)]
  have r2 : ∀ o1 o2 o3 o4 : Int32, F_X5_readOrder 2000 (nI (txN k)) (nI (2 + sb_dg k)) 0 tx o1 o2 o3 o4 = some (nI (txN k), 0, 45, nI k, 0, 1) := by
    intro o1 o2 o3 o4
    rw [t_45 (by omega) (by omega) ((h (2 + sb_dg k) (by omega)).trans (by rw [show txD k (2 + sb_dg k) = 45 from q10]; rfl)), nq_c h, nv_c h, show 2 + sb_dg k + 1 = sb_dg k + 3 by omega, show nq (txN k) (fun j => nI (txD k j)) 3 (sb_dg k + 3) = txN k from q5, show nv (txN k) (fun j => nI (txD k j)) 3 (sb_dg k + 3) = nI k from q6, if_neg (by omega)]
  have t2 : tx (1 + sb_dg k) = 59 := (h (1 + sb_dg k) (by omega)).trans (by rw [show txD k (1 + sb_dg k) = 59 from q9]; rfl)
  rw [F_X7_carryOutText_11, if_neg (by decide), if_neg (by decide), r1, bn6_e] at e
  unfold F_X0_refuses at e
  rw [f1, bn2_e, if_pos rfl, bn5_e, if_pos rfl, f2, bn9_e, p_sep (by omega) (by omega) hc, if_pos (by omega), if_pos t2, bn3_e, nI_1, show 1 + sb_dg k + 1 = 2 + sb_dg k by omega] at e
  have e : F_X7_carryOutText_11 2000 (nI (txN k)) tx (1998 + 1) (nI n) hid (dl ks 0 n) (dl ws 0 n) (dl ts 0 n) cn ct' ch 0 rs dt ix 45 (nI k) 0 1 (nI (2 + sb_dg k)) 0 (nI (0 + 1)) 1 = _ := e
  rw [F_X7_carryOutText_11, if_neg (by decide), if_neg (by decide), r2, bn6_e] at e
  unfold F_X0_refuses at e
  rw [f3, bn2_e, if_neg (by decide), bn5_e, if_neg (by decide)] at e
  have i := Option.some.inj e
  simp only [Prod.mk.injEq] at i
  exact ⟨i.1.symm, i.2.2.2.2.2.2.2.2.2.2.1.symm, i.2.2.2.2.2.2.2.2.2.2.2.1.symm, i.2.2.2.2.2.2.2.2.2.2.2.2.1.symm⟩
theorem ps_D {k : Nat} (hk : k < 1000) (h : ∀ j, j < txN k → tx j = nI (txD k j)) : ps (txN k) tx 61 0 = none := (ps_c h 61 0).trans (txD_all ⟨k, hk⟩).1.2.1
/-! append, lines -/
theorem N_append {p1 : Int32} (hM : M < 60) : F_X7_append 2000 (nI M) tx p1 = some (0, nI (M + 1), nI (M + 1), upd tx M (vp_nar .char p1)) := by
  unfold F_X7_append F_X5_take F_X5_length
  rw [if_neg (nI_nlt0 (by omega)), if_pos (show nI M < (60 : Int32) from (nI_ltI (a := M) (b := 60) (by omega) (by omega)).mpr (by omega)), g_lit (by omega) (by decide), bn3_e, if_neg (by decide), nI_1, bn_e, nI_clamp (by omega)]
theorem N_append60 {p1 : Int32} : F_X7_append 2000 (nI 60) tx p1 = some (5, 0, nI 60, tx) := by
  unfold F_X7_append F_X5_take F_X5_length
  rw [if_neg (nI_nlt0 (by decide)), if_neg (by decide), bn3_e, if_pos rfl]
def lnq (q : Lad) (p1 : Int32) : (Nat → Nat) × Nat := lnT q.1.toNatClampNeg q.2.2.1 q.2.2.2.2.1 q.2.1 p1
theorem lnL_cut (hn : n ≤ 24) : ∀ (d j : Nat) (t : Nat → Nat) (N : Nat), j + d = n → lnL (cut (nI n) ks) (cut (nI n) ts) lev d j t N = lnL ks ts lev d j t N := by
  intro d
  induction d with
  | zero => intro j t N _; rfl
  | succ d ih =>
    intro j t N h
    rw [lnL, lnL, cut_n hn (show j < n by omega), cut_n hn (show j < n by omega), ih _ _ _ (by omega), ih _ _ _ (by omega)]
theorem lnq_n {p1 : Int32} (hn : n ≤ 24) : lnq (NRM (nI n) hid ks ws ts cn ct' ch) p1 = lnT n ks ts hid p1 := by
  show lnT (nI n).toNatClampNeg (cut (nI n) ks) (cut (nI n) ts) hid p1 = _
  rw [nI_clamp (by omega)]
  unfold lnT
  exact lnL_cut hn n 0 _ _ (by omega)
def dLv (p1 : Int32) : Nat := if p1 < 0 then 3 else if p1 < 5 then 0 else 3
theorem N_dLv {p1 : Int32} : F_X7_demandLevel 2000 p1 = some (dLv p1) := by
  unfold F_X7_demandLevel dLv
  split
  · rfl
  · split <;> rfl
theorem dLv_0 {p1 : Int32} (h : dLv p1 = 0) : ∃ L, L ≤ 4 ∧ p1 = nI L := by
  unfold dLv at h
  split at h
  · cases h
  · rename_i h0
    split at h
    · rename_i h5
      obtain ⟨k, -, h2, h3⟩ := inR_n (lo := 0) (hi := 4) (x := p1) (decide_eq_true ⟨(nlt_iff_le _ _).mp h0, by rw [Int32.le_iff_toInt_le, show ((nI 4).toInt) = 4 from rfl]; rw [Int32.lt_iff_toInt_lt, show ((5 : Int32).toInt) = 5 from rfl] at h5; omega⟩) (by decide) (by decide)
      exact ⟨k, h2, h3⟩
    · cases h
theorem dLv_3 {p1 : Int32} (h : ¬ dLv p1 = 0) : dLv p1 = 3 := by
  unfold dLv at h ⊢
  split
  · rfl
  · split
    · rename_i h1 h2; rw [if_neg h1, if_pos h2] at h; exact absurd rfl h
    · rfl
