/-! the first archive's ladders, one by one -/
def lad0 : Lad := (0, 0, fun _ => 0, fun _ => 0, fun _ => 0, 1, 0, 0)
def gkf (j : Nat) : Nat → Int32 := fun i => if i < j then nI (40 * (24 - j + i)) else 0
def gwf (j : Nat) : Nat → Int32 := fun i => if i < j then nI (24 - j + i) else 0
def gtf (j : Nat) : Nat → Int32 := fun i => if i < j then nI (5 - (24 - j + i) % 5) else 0
def gq (j : Nat) : Lad := (nI j, 0, gkf j, gwf j, gtf j, 92, 1, 0)
def gF : Lad := (nI 24, 0 ||| bit 4, gkf 24, gwf 24, gtf 24, 92, 1, 0)
def usq : Nat → List Lad
  | 0 => [lad0]
  | j + 1 => push (gq j) (usq j)
theorem cut_z (z : Int32) : cut z (fun _ => 0) = fun _ => 0 := funext fun j => by
  unfold cut
  by_cases h : j < z.toNatClampNeg
  · rw [if_pos h]
  · rw [if_neg h]
theorem cut_g {n : Nat} (hn : n < 2 ^ 31) {f g : Nat → Int32} (h1 : ∀ i, i < n → f i = g i) (h2 : ∀ i, ¬ i < n → g i = 0) : cut (nI n) f = g := funext fun i => by
  unfold cut
  rw [nI_clamp hn]
  by_cases h : i < n
  · rw [if_pos h]; exact h1 i h
  · rw [if_neg h]; exact (h2 i h).symm
theorem O94 {q : Lad} {n : Nat} (hq : q.1 = nI n) (c4 : n < 24) {k w ru : Int32} : ordC q 94 k w ru = (nI (lw (n + 1) (ins q.2.2.1 (lw n q.2.2.1 k) n k) k), NRM (nI (n + 1)) q.2.1 (ins q.2.2.1 (lw n q.2.2.1 k) n k) (ins q.2.2.2.1 (lw n q.2.2.1 k) n w) (ins q.2.2.2.2.1 (lw n q.2.2.1 k) n ru) q.2.2.2.2.2.1 q.2.2.2.2.2.2.1 q.2.2.2.2.2.2.2) := by
  unfold ordC
  rw [hq, c_94 (by omega) (Nat.le_refl 2000), p_insert c4 (Nat.le_refl 2000), bn4_e, p_lowerKeys (by omega) (Nat.le_refl 2000), bn_e]
theorem e_toss : ordC lad0 116 0 0 1 = (0, gq 0) := by
  have h := c_116 (n := 0) (hid := 0) (ks := fun _ => 0) (ws := fun _ => 0) (ts := fun _ => 0) (cn := 1) (ct' := 0) (ch := 0) (by decide) (k := 0) (we := 0) (ru := 1)
  have e : ordC lad0 116 0 0 1 = ((if hd (fw 1) then 1 else 0), NRM (nI 0) 0 (fun _ => 0) (fun _ => 0) (fun _ => 0) (fw 1) (0 + 1) (if hd (fw 1) then 0 + 1 else 0)) := by
    unfold ordC
    show (match F_X0_carryOut 2000 (nI 0) 0 (fun _ => 0) (fun _ => 0) (fun _ => 0) 1 0 0 116 0 0 1 with | some (v, z, hid, ks, ws, ts, cn, ct, ch) => (v, NRM z hid ks ws ts cn ct ch) | none => (0, lad0)) = _
    rw [h]
  rw [e, show hd (fw 1) = false by decide +kernel, show fw 1 = 92 by decide +kernel]
  show ((0 : Int32), NRM (nI 0) 0 (fun _ => 0) (fun _ => 0) (fun _ => 0) 92 (0 + 1) 0) = (0, gq 0)
  show ((0 : Int32), (nI 0, (0 : Int32), cut (nI 0) (fun _ => 0), cut (nI 0) (fun _ => 0), cut (nI 0) (fun _ => 0), (92 : Int32), (0 + 1 : Int32), (0 : Int32))) = (0, gq 0)
  rw [cut_z]
  have z1 : gkf 0 = fun _ => 0 := funext fun i => if_neg (Nat.not_lt_zero i)
  have z2 : gwf 0 = fun _ => 0 := funext fun i => if_neg (Nat.not_lt_zero i)
  have z3 : gtf 0 = fun _ => 0 := funext fun i => if_neg (Nat.not_lt_zero i)
  unfold gq
  rw [z1, z2, z3]
  rfl
theorem e_tab : ∀ j : Fin 24, (inR 0 999 (nI (40 * (23 - j.val))) = true ∧ inR 0 99 (nI (23 - j.val)) = true ∧ inR 1 5 (nI (5 - (23 - j.val) % 5)) = true) ∧ pw j.val (gkf j.val) (nI (40 * (23 - j.val))) = none ∧ lw j.val (gkf j.val) (nI (40 * (23 - j.val))) = 0 ∧ lw (j.val + 1) (ins (gkf j.val) 0 j.val (nI (40 * (23 - j.val)))) (nI (40 * (23 - j.val))) = 0 := by decide +kernel
theorem e_tab2 : ∀ j i : Fin 24, i.val < j.val + 1 → ins (gkf j.val) 0 j.val (nI (40 * (23 - j.val))) i.val = gkf (j.val + 1) i.val ∧ ins (gwf j.val) 0 j.val (nI (23 - j.val)) i.val = gwf (j.val + 1) i.val ∧ ins (gtf j.val) 0 j.val (nI (5 - (23 - j.val) % 5)) i.val = gtf (j.val + 1) i.val := by decide +kernel
theorem e_fileR {j : Nat} (hj : j < 24) : ordR (gq j) 94 (nI (40 * (23 - j))) (nI (23 - j)) (nI (5 - (23 - j) % 5)) = (0, 0) := by
  obtain ⟨h1, h2, -⟩ := e_tab ⟨j, hj⟩
  have h := R_filing (q := gq j) (n := j) (by omega) rfl (k := nI (40 * (23 - j))) (we := nI (23 - j)) (ru := nI (5 - (23 - j) % 5)) (Or.inr rfl)
  rw [if_pos h1] at h
  have h2 : pw j (gq j).2.2.1 (nI (40 * (23 - j))) = none := h2
  rw [h2] at h
  exact h.trans (if_pos hj)
theorem e_fileC {j : Nat} (hj : j < 24) : ordC (gq j) 94 (nI (40 * (23 - j))) (nI (23 - j)) (nI (5 - (23 - j) % 5)) = (0, gq (j + 1)) := by
  obtain ⟨-, -, h3, h4⟩ := e_tab ⟨j, hj⟩
  have h3 : lw j (gq j).2.2.1 (nI (40 * (23 - j))) = 0 := h3
  rw [O94 (q := gq j) rfl hj, h3]
  have h4 : lw (j + 1) (ins (gq j).2.2.1 0 j (nI (40 * (23 - j)))) (nI (40 * (23 - j))) = 0 := h4
  rw [h4]
  have t := fun i (hi : i < j + 1) => e_tab2 ⟨j, hj⟩ ⟨i, by omega⟩ hi
  have k1 : cut (nI (j + 1)) (ins (gq j).2.2.1 0 j (nI (40 * (23 - j)))) = gkf (j + 1) := cut_g (by omega) (fun i hi => (t i hi).1) (fun i hi => if_neg hi)
  have k2 : cut (nI (j + 1)) (ins (gq j).2.2.2.1 0 j (nI (23 - j))) = gwf (j + 1) := cut_g (by omega) (fun i hi => (t i hi).2.1) (fun i hi => if_neg hi)
  have k3 : cut (nI (j + 1)) (ins (gq j).2.2.2.2.1 0 j (nI (5 - (23 - j) % 5))) = gtf (j + 1) := cut_g (by omega) (fun i hi => (t i hi).2.2) (fun i hi => if_neg hi)
  show ((nI 0 : Int32), (nI (j + 1), (gq j).2.1, cut (nI (j + 1)) _, cut (nI (j + 1)) _, cut (nI (j + 1)) _, (gq j).2.2.2.2.2.1, (gq j).2.2.2.2.2.2.1, (gq j).2.2.2.2.2.2.2)) = _
  rw [k1, k2, k3]
  rfl
theorem e_full : ordR (gq 24) 43 5 5 1 = (2, 24) := by
  have h := R_filing (q := gq 24) (n := 24) (by decide) rfl (k := 5) (we := 5) (ru := 1) (Or.inl rfl)
  rw [if_pos ⟨by decide, by decide, by decide⟩] at h
  have h2 : pw 24 (gq 24).2.2.1 5 = none := by decide +kernel
  rw [h2] at h
  exact h.trans (if_neg (by decide))
theorem e_there : ordR (gq 24) 94 0 5 1 = (4, nI 0) := R_fil_there (by decide) (show (gq 24).1 = nI 24 from rfl) (Or.inr rfl) (by decide) (by decide) (by decide) (by decide +kernel)
theorem e_forR : ordR (gq 24) 102 4 0 1 = (0, 0) := R_forget0 (q := gq 24) (n := 24) rfl rfl (lv := 4) (by decide) (by decide)
theorem e_forC : ordC (gq 24) 102 4 0 1 = (5, gF) := by
  have e : ordC (gq 24) 102 4 0 1 = (nI (ct (rg 24 (gtf 24) 4) 24), NRM (nI 24) (0 ||| bit 4) (gkf 24) (gwf 24) (gtf 24) 92 1 0) := by
    unfold ordC
    rw [show (gq 24).1 = nI 24 from rfl, c_102 (by decide) (Nat.le_refl 2000)]
    rfl
  have k1 : cut (nI 24) (gkf 24) = gkf 24 := cut_g (by decide) (fun i hi => rfl) (fun i hi => if_neg hi)
  have k2 : cut (nI 24) (gwf 24) = gwf 24 := cut_g (by decide) (fun i hi => rfl) (fun i hi => if_neg hi)
  have k3 : cut (nI 24) (gtf 24) = gtf 24 := cut_g (by decide) (fun i hi => rfl) (fun i hi => if_neg hi)
  rw [e, show ct (rg 24 (gtf 24) 4) 24 = 5 by decide +kernel]
  show ((nI 5 : Int32), (nI 24, 0 ||| bit 4, cut (nI 24) (gkf 24), cut (nI 24) (gwf 24), cut (nI 24) (gtf 24), (92 : Int32), (1 : Int32), (0 : Int32))) = _
  rw [k1, k2, k3]
  rfl
theorem ps_A {tx : Nat → Int32} (h : tx 0 = 65) : ps 60 tx 61 0 = some 0 := by
  have e : oB 60 tx 0 = false ∧ oQ 60 tx 0 = 0 := by
    unfold oB oQ
    simp only [h]
    exact ⟨rfl, rfl⟩
  unfold ps
  rw [e.1, e.2]
  rfl
theorem acc_9 {q : Lad} {u le : Int32} : lq_account q u le 9 = le := by
  unfold lq_account qv_account F_X7_account
  rfl
