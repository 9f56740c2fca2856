/-! what the refused calls leave -/
theorem Ob_N {y : Nat → ClassId} {at_ : Nat} {q : Lad} {us : List Lad} {sv : Option Lad} {rs dt ix lf : Int32} {M : Nat} {tx : Nat → Int32} {NN : Nat} {TT : Nat → Nat} {V : va_W} (h : Ob y at_ q us sv rs dt ix lf M tx NN TT V) : NN ≤ 99 := by
  obtain ⟨u, v, mm, ml, bb, x1, x2, x3, x4, x5, x6, x7, x8, x9, x10, x11, x12, x13, x14, x15, x16, x17, x18, x19, x20, x21, x22, x23, x24, x25, x26, x27, x28, x29, x30, x31, x32, x33, x34, x35, x36, x37, x38, x39, x40, x41, x42, x43, x44, x45, x46, x47, rfl, hR⟩ := h
  exact hR.2.2.2.2.2.2.2.1
theorem c120 {n : Nat} (h : n ≤ 99) : nI n ≤ 120 := (nI_leI (a := n) (b := 120) (by omega) (by decide)).mpr (by omega)
theorem isRg_1 : isRg 1 0 0 (-1001) = 1 := by decide +kernel
theorem isV_y {rs dt ix a b c : Int32} (h1 : lq_reason rs dt ix 0 = a) (h2 : lq_reason rs dt ix 1 = b) (h3 : lq_reason rs dt ix 2 = c) : isV rs dt ix a b c = 1 := if_pos ⟨h1, h2, h3⟩
theorem GL_first {q : Lad} (h : GL q) {n : Nat} (hn24 : n ≤ 24) (hc : q.1 = nI n) (h0 : 0 < n) : ∃ k w9 : Nat, k ≤ 999 ∧ q.2.2.1 0 = nI k ∧ pw n q.2.2.1 (nI k) = some 0 ∧ w9 ≤ 99 ∧ q.2.2.2.1 0 = nI w9 := by
  obtain ⟨⟨a, n2, h1, hl, hM⟩, hW⟩ := h
  have hn := hl.1
  obtain rfl : n2 = n := (nI_eq (by omega) (by omega)).mp (h1.symm.trans hc)
  obtain ⟨k, g1, g2⟩ := hl.2.2.2.1 0 h0
  obtain ⟨w, g3, g4⟩ := hW 0 (by rw [h1, nI_clamp (by omega)]; exact h0)
  exact ⟨k, w, g1, g2, by rw [← g2]; exact lw_first hl h0, g3, g4⟩
theorem rdX_at {tt : Nat → Nat} {tx : Nat → Int32} : ∀ {sn j : Nat}, j < sn → rdX tt tx sn j = vp_nar .char (nI (tt j))
  | 0, _, h => absurd h (Nat.not_lt_zero _)
  | sn + 1, j, h => by
    show upd (rdX tt tx sn) sn (vp_nar .char (nI (tt sn))) j = _
    by_cases e : j = sn
    · subst e; unfold upd; rw [if_pos rfl]
    · have := rdX_at (tt := tt) (tx := tx) (sn := sn) (j := j) (by omega)
      unfold upd; rw [if_neg e]; exact this
theorem nar_n {k : Nat} (h : k < 65536) : vp_nar .char (nI k) = nI k := by
  have e := (pk_charN (q := k) h).1
  unfold vp_nar
  rw [e]
theorem CT_T {q : Lad} {rs dt ix v rs2 dt2 ix2 : Int32} {tx : Nat → Int32} (h : ∀ j, j < 8 → tx j = txT j) (hC : CTX q rs dt ix 8 tx v rs2 dt2 ix2) : v = -1 ∧ rs2 = 1 ∧ dt2 = 0 ∧ ix2 = 3 := by
  obtain ⟨z, hid, ks, ws, ts, cn, ct, ch, de, a, ⟨n, rfl, hl, hM⟩, -, s, nu, we, ru, y2, y3, y4, y5, y6, y7, y8, y9, y10, y14, y15, y16, y17, y18, y19, e⟩ := hC
  have hc : ∀ j : Fin 8, okC (txT j.val) = true := by decide +kernel
  exact S_T hl.1 h (fun j hj => by rw [h j hj]; exact hc ⟨j, hj⟩) e
theorem okC_k {k : Nat} (h : k < 65536) : okC (nI k) = true := decide_eq_true ⟨Int32.not_lt.mp (nI_nlt0 (by omega)), (nI_leI (a := k) (b := 65535) (by omega) (by decide)).mpr (by omega)⟩
theorem CT_D {q : Lad} {rs dt ix v rs2 dt2 ix2 : Int32} {tx : Nat → Int32} {n k : Nat} (hc : q.1 = nI n) (h0 : 0 < n) (hn24 : n ≤ 24) (hk : k < 1000) (hk0 : q.2.2.1 0 = nI k) (h : ∀ j, j < txN k → tx j = nI (txD k j)) (hb : ∀ j, j < txN k → txD k j < 65536) (hC : CTX q rs dt ix (txN k) tx v rs2 dt2 ix2) : v = -1 ∧ rs2 = 3 ∧ dt2 = nI k ∧ ix2 = 1 := by
  obtain ⟨z, hid, ks, ws, ts, cn, ct, ch, de, a, ⟨n2, rfl, hl, hM⟩, hq, s, nu, we, ru, y2, y3, y4, y5, y6, y7, y8, y9, y10, y14, y15, y16, y17, y18, y19, e⟩ := hC
  have hn := hl.1
  subst hq
  obtain rfl : n2 = n := (nI_eq (by omega) (by omega)).mp hc
  have e0 : ks 0 = nI k := (cut_n hn h0).symm.trans hk0
  exact S_D hl h0 hk e0 h (fun j hj => by rw [h j hj]; exact okC_k (hb j hj)) e
theorem rd_q {y : Nat → ClassId} {at_ : Nat} {q : Lad} {us : List Lad} {sv : Option Lad} {rs dt ix : Int32} {tx : Nat → Int32} {NN : Nat} {TT : Nat → Nat} {r : Int32} {V : va_W} (h : rdR y at_ q us sv rs dt ix 1 (rdX (fun j => ([113] : List Nat).getD j 0) tx 1) NN TT r V) : r = -1001 ∧ Ob y at_ q us sv rs dt ix (nI 0) 0 (rdX (fun j => ([113] : List Nat).getD j 0) tx 1) NN TT V := by
  have e : ps 1 (rdX (fun j => ([113] : List Nat).getD j 0) tx 1) 61 0 = some 0 := ps_q ((rdX_at (by decide)).trans (nar_n (by decide)))
  rcases h with ⟨x, h1, h2, h3⟩ | ⟨h1, -⟩
  · obtain rfl : x = 0 := Option.some.inj (h1.symm.trans e)
    exact ⟨h2, h3⟩
  · exact absurd (h1.symm.trans e) (by simp)
theorem rd_T {y : Nat → ClassId} {at_ : Nat} {q : Lad} {us : List Lad} {sv : Option Lad} {rs dt ix : Int32} {tx : Nat → Int32} {NN : Nat} {TT : Nat → Nat} {r : Int32} {V : va_W} (h : rdR y at_ q us sv rs dt ix 8 (rdX (fun j => ([116, 59, 116, 59, 116, 59, 102, 48] : List Nat).getD j 0) tx 8) NN TT r V) : r = -1002 ∧ Ob y at_ q us sv 1 0 3 (-1) 0 (rdX (fun j => ([116, 59, 116, 59, 116, 59, 102, 48] : List Nat).getD j 0) tx 8) NN TT V := by
  have e0 : ∀ j, j < 8 → rdX (fun j => ([116, 59, 116, 59, 116, 59, 102, 48] : List Nat).getD j 0) tx 8 j = txT j := fun j hj => by
    rw [rdX_at hj]
    have g : ∀ j : Fin 8, vp_nar .char (nI ((fun j => ([116, 59, 116, 59, 116, 59, 102, 48] : List Nat).getD j 0) j.val)) = txT j.val := by decide +kernel
    exact g ⟨j, hj⟩
  rcases h with ⟨x, h1, h2, h3⟩ | ⟨-, v, rs2, dt2, ix2, hC, h⟩
  · exact absurd (h1.symm.trans (ps_T e0)) (by simp)
  · obtain ⟨rfl, rfl, rfl, rfl⟩ := CT_T e0 hC
    rcases h with ⟨-, h1, h2⟩ | ⟨-, h1, -⟩
    · exact ⟨h1, h2⟩
    · exact absurd h1 (by decide)
theorem rd_D {y : Nat → ClassId} {at_ : Nat} {q : Lad} {us : List Lad} {sv : Option Lad} {rs dt ix : Int32} {tx : Nat → Int32} {NN : Nat} {TT : Nat → Nat} {r : Int32} {V : va_W} {n k sn : Nat} {tt : Nat → Nat} (hc : q.1 = nI n) (h0 : 0 < n) (hk : k < 1000) (hk0 : q.2.2.1 0 = nI k) (hn24 : n ≤ 24) (hs : ∀ j, j < txN k → sn = txN k ∧ tt j = txD k j ∧ txD k j < 65536) (h : rdR y at_ q us sv rs dt ix sn (rdX tt tx sn) NN TT r V) : r = -1002 ∧ Ob y at_ q us sv 3 (nI k) 1 (-1) 0 (rdX tt tx sn) NN TT V := by
  have hp : 0 < txN k := by unfold txN; omega
  obtain rfl : sn = txN k := (hs 0 hp).1
  have e0 : ∀ j, j < txN k → rdX tt tx (txN k) j = nI (txD k j) := fun j hj => by
    rw [rdX_at hj, (hs j hj).2.1, nar_n (hs j hj).2.2]
  rcases h with ⟨x, h1, h2, h3⟩ | ⟨-, v, rs2, dt2, ix2, hC, h⟩
  · exact absurd (h1.symm.trans (ps_D hk e0)) (by simp)
  · obtain ⟨rfl, rfl, rfl, rfl⟩ := CT_D hc h0 hn24 hk hk0 e0 (fun j hj => (hs j hj).2.2) hC
    rcases h with ⟨-, h1, h2⟩ | ⟨-, h1, -⟩
    · exact ⟨h1, h2⟩
    · exact absurd h1 (by decide)
theorem txD_at {k : Nat} (hk : k < 1000) (j : Nat) (hj : j < txN k) : 0 + 1 + sb_dg (k) + 2 + sb_dg (k) = txN k ∧ (sb_cat (sb_cat (sb_cat (sb_cat (fun _ => 0) (0) (fun j => ([45] : List Nat).getD j 0)) (0 + 1) (sb_dec (k))) (0 + 1 + sb_dg (k)) (fun j => ([59, 45] : List Nat).getD j 0)) (0 + 1 + sb_dg (k) + 2) (sb_dec (k))) j = txD k j ∧ txD k j < 65536 := by
  refine ⟨by unfold txN; omega, ?_, ?_⟩
  · unfold txD sb_cat
    rw [show 0 + 1 = 1 from rfl]
    by_cases h1 : j < 1 + sb_dg k + 2
    · rw [if_pos h1, if_pos h1]
      by_cases h2 : j < 1 + sb_dg k
      · rw [if_pos h2, if_pos h2]
        by_cases h3 : j < 1
        · rw [if_pos h3, if_pos h3]
          obtain rfl : j = 0 := by omega
          rfl
        · rw [if_neg h3, if_neg h3]
      · rw [if_neg h2, if_neg h2]
        rcases (show j = 1 + sb_dg k ∨ j = 1 + sb_dg k + 1 by omega) with e | e
        · rw [show j - (1 + sb_dg k) = 0 by omega]; rfl
        · rw [show j - (1 + sb_dg k) = 1 by omega]; rfl
    · rw [if_neg h1, if_neg h1]
  · have g : ∀ k : Fin 1000, ∀ j : Fin 9, txD k.val j.val < 65536 := by decide +kernel
    have h9 : txN k ≤ 9 := (txD_all ⟨k, hk⟩).1.1
    exact g ⟨k, hk⟩ ⟨j, by omega⟩
