/-! texts: a command, read by both -/
variable {fl : Nat} {TX told : Nat → Int32} {M q L i : Nat} {c at' fy o1 o2 o3 o4 p2 od : Int32}
/-- the same command -/
def ORD (s nu we ru od : Int32) (told : Nat → Int32) : Prop :=
  (od = 43 ∧ s = 43 ∧ told 2 < 0 ∧ nu = told 0 ∧ we = told 1 ∧ ru = 1) ∨ (od = 43 ∧ s = 94 ∧ ¬ told 2 < 0 ∧ nu = told 0 ∧ we = told 1 ∧ ru = told 2) ∨
  (s = od ∧ (od = 45 ∨ od = 100 ∨ od = 117 ∨ od = 102 ∨ od = 114) ∧ nu = told 0 ∧ we = 0) ∨ (s = 116 ∧ od = 116) ∨ (s = 119 ∧ od = 119 ∧ nu = told 0 ∧ we = told 1)
theorem nv1_nn : ¬ nv M TX 1 q < 0 := by
  unfold nv
  rw [rn]
  by_cases d : dig M TX q = true
  · rw [if_pos d, rn]
    obtain ⟨k, h1, h2, e⟩ := inR_n (lo := 48) (hi := 57) (of_decide_eq_true d).2 (by decide) (by decide)
    show ¬ ((10 : Int32) * 0 + TX q) - (48 : Int32) < 0
    rw [e, show (10 : Int32) * 0 + nI k = nI (0 + k) from nI_add 0 k, show nI (0 + k) - (48 : Int32) = nI (0 + k - 48) from pk_sub (b := 48) (by omega)]
    exact nI_nlt0 (by omega)
  · rw [if_neg d]; show ¬ (0 : Int32) < 0; decide
theorem p_n3 (hf : 2000 ≤ fl) (hM : M ≤ 60) (h : q ≤ M) : F_X5_readNumber fl (nI M) (nI q) 0 TX 3 = some (nv M TX 3 q, nI (nq M TX 3 q), if nq M TX 3 q = q then 1 else 0) := p_read (L := 3) hf hM h (by omega)
theorem p_n1 (hf : 2000 ≤ fl) (hM : M ≤ 60) (h : q ≤ M) : F_X5_readNumber fl (nI M) (nI q) 0 TX 1 = some (nv M TX 1 q, nI (nq M TX 1 q), if nq M TX 1 q = q then 1 else 0) := p_read (L := 1) hf hM h (by omega)
theorem q_n3 (hf : 2000 ≤ fl) (hM : M ≤ 60) (h : q ≤ M) : F_X8_number fl (nI M) (nI q) TX told 0 3 = some ((if nq M TX 3 q = q then 0 else 1), nI (nq M TX 3 q), upd told 0 (nv M TX 3 q)) := q_number (L := 3) (i := 0) hf hM h (by omega) (by omega)
theorem q_n1 (hf : 2000 ≤ fl) (hM : M ≤ 60) (h : q ≤ M) : F_X8_number fl (nI M) (nI q) TX told 0 1 = some ((if nq M TX 1 q = q then 0 else 1), nI (nq M TX 1 q), upd told 0 (nv M TX 1 q)) := q_number (L := 1) (i := 0) hf hM h (by omega) (by omega)
theorem q_n2 (hf : 2000 ≤ fl) (hM : M ≤ 60) (h : q ≤ M) : F_X8_number fl (nI M) (nI q) TX told 1 2 = some ((if nq M TX 2 q = q then 0 else 1), nI (nq M TX 2 q), upd told 1 (nv M TX 2 q)) := q_number (L := 2) (i := 1) hf hM h (by omega) (by omega)
theorem q_n1c (hf : 2000 ≤ fl) (hM : M ≤ 60) (h : q ≤ M) : F_X8_number fl (nI M) (nI q) TX told 2 1 = some ((if nq M TX 1 q = q then 0 else 1), nI (nq M TX 1 q), upd told 2 (nv M TX 1 q)) := q_number (L := 1) (i := 2) hf hM h (by omega) (by omega)
/-- the reference's reading of a key and a weight, with what follows -/
theorem q_kwK {G : Type} (hf : 2000 ≤ fl) (hM : M ≤ 60) (h : q ≤ M) (F0 : Int32 → Int32 → (Nat → Int32) → Option G) (F1 : Int32 → (Nat → Int32) → Option G) :
    ∃ t2, (bn3 (F_X8_number fl (nI M) (nI q) TX told 0 3) fun r a t => if r = 0 then F0 0 a t else bn2 (F_X8_sign fl (nI M) a TX 61) fun r2 a2 => if r2 = 0 then F0 0 a2 t else bn3 (F_X8_number fl (nI M) a2 TX t 1 2) fun r3 a3 t3 => if r3 = 0 then F0 0 a3 t3 else F1 a3 t3) = (if kwB M TX q = true then F1 (nI (kwQ M TX q)) t2 else F0 0 (nI (kwQ M TX q)) t2) ∧ (kwB M TX q = true → t2 = upd (upd told 0 (nv M TX 3 q)) 1 (nv M TX 2 (nq M TX 3 q + 1))) := by
  have h1 := nq_le (TX := TX) (L := 3) h
  rw [q_n3 hf hM h, bn3_e]
  by_cases c1 : nq M TX 3 q = q
  · have b : ¬ kwB M TX q = true := fun z => by
      unfold kwB at z
      rw [decide_eq_false (show ¬ nq M TX 3 q ≠ q from fun y => y c1), Bool.false_and, Bool.false_and] at z
      exact absurd z (by decide)
    rw [if_pos c1, if_pos rfl]
    refine ⟨upd told 0 (nv M TX 3 q), ?_, fun z => absurd z b⟩
    rw [if_neg b, show kwQ M TX q = q from if_pos c1, c1]
  · rw [if_neg c1, if_neg (show ¬ (1 : Int32) = 0 by decide), q_sign hM h1.2]
    by_cases c2 : hs M TX (nq M TX 3 q) 61 = true
    · have hq2 : nq M TX 3 q + 1 ≤ M := by have := (of_decide_eq_true c2).1; omega
      have eQ : kwQ M TX q = nq M TX 2 (nq M TX 3 q + 1) := by unfold kwQ; rw [if_neg c1, if_pos c2]
      rw [if_pos c2, bn2_e, if_neg (show ¬ (1 : Int32) = 0 by decide), q_n2 hf hM hq2, bn3_e]
      refine ⟨upd (upd told 0 (nv M TX 3 q)) 1 (nv M TX 2 (nq M TX 3 q + 1)), ?_, fun _ => rfl⟩
      rw [eQ]
      by_cases c3 : nq M TX 2 (nq M TX 3 q + 1) = nq M TX 3 q + 1
      · have b : ¬ kwB M TX q = true := fun z => by
          unfold kwB at z
          rw [decide_eq_false (show ¬ nq M TX 2 (nq M TX 3 q + 1) ≠ nq M TX 3 q + 1 from fun y => y c3), Bool.and_false] at z
          exact absurd z (by decide)
        rw [if_pos c3, if_pos rfl, if_neg b]
      · have b : kwB M TX q = true := by
          unfold kwB
          rw [decide_eq_true (show nq M TX 3 q ≠ q from c1), c2, decide_eq_true (show nq M TX 2 (nq M TX 3 q + 1) ≠ nq M TX 3 q + 1 from c3)]; rfl
        rw [if_neg c3, if_neg (show ¬ (1 : Int32) = 0 by decide), if_pos b]
    · have b : ¬ kwB M TX q = true := fun z => by
        unfold kwB at z
        have c2 : hs M TX (nq M TX 3 q) 61 = false := by cases y : hs M TX (nq M TX 3 q) 61 with | true => exact absurd y c2 | false => rfl
        rw [c2, Bool.and_false, Bool.false_and] at z
        exact absurd z (by decide)
      have eQ : kwQ M TX q = nq M TX 3 q := by unfold kwQ; rw [if_neg c1, if_neg c2]
      rw [if_neg c2, bn2_e, if_pos rfl]
      refine ⟨upd told 0 (nv M TX 3 q), ?_, fun z => absurd z b⟩
      rw [if_neg b, eQ]
/-- a command at q, read by both -/
theorem r_order (hf : 2000 ≤ fl) (hM : M ≤ 60) (h : q ≤ M) (hc : ∀ j, j < M → okC (TX j) = true) : ∃ s nu we ru od' told',
    F_X5_readOrder fl (nI M) (nI q) 0 TX o1 o2 o3 o4 = some (nI (oQ M TX q), (if oB M TX q = true then 0 else 1), s, nu, we, ru) ∧
    F_X8_isCommand fl (nI M) (nI q) od TX told = some ((if oB M TX q = true then 1 else 0), nI (oQ M TX q), od', told') ∧ (oB M TX q = true → ORD s nu we ru od' told') := by
  unfold F_X5_readOrder F_X8_isCommand
  rw [p_look hM (by omega), bn_e]
  by_cases e : q < M
  · have e1 : q + 1 ≤ M := e
    have i2 : ∀ {α : Type} {x : Option α}, gi (2 : Int32) 3 x = x := fun {α x} => g_lit (k := 2) (by decide) (by decide)
    rw [if_pos e, if_neg (show ¬ nI q = nI M from fun z => by have := (nI_eq (by omega) (by omega)).mp z; omega), g_lit (show q < 60 by omega) (by decide), nI_clamp (by omega), gd_e (hc q e), i2, c2, nI_1]
    have oBe : oB M TX q = _ := if_pos e
    have oQe : oQ M TX q = _ := if_pos e
    by_cases t : TX q = 43
    · rw [if_pos t, if_pos t]
      rw [if_pos t] at oBe oQe
      obtain ⟨w, p1, p2⟩ := p_kw (fl := fl) (TX := TX) (o1 := o1) (o2 := o2) (o3 := o3) (o4 := o4) (p2 := 43) hf hM e1 (by decide)
      obtain ⟨t2, k1, k2⟩ := q_kwK (fl := fl) (TX := TX) (told := upd told 2 (-1)) hf hM e1 (fun r a t => some (r, a, TX q, t)) (fun a3 t3 => bn2 (F_X8_sign fl (nI M) a3 TX 94) fun r a => if r = 0 then some (1, a, TX q, t3) else bn3 (F_X8_number fl (nI M) a TX t3 2 1) fun r a t => if r = 0 then some (0, a, TX q, t) else some (1, a, TX q, t))
      have hk := kwQ_le (TX := TX) (q := q + 1) (M := M) e1
      unfold F_X5_readFiling F_X4_number F_X4_weight F_X4_tell
      rw [nI_1, p1, bn6_e]
      by_cases b : kwB M TX (q + 1) = true
      · rw [if_pos b] at k1
        rw [b, Bool.true_and] at oBe
        rw [if_pos b] at oQe
        rw [q_sign hM hk.2] at k1
        rw [if_pos b, if_pos rfl, p_look hM (by omega), bn_e]
        have z0 : t2 0 = nv M TX 3 (q + 1) := by rw [k2 b, pk_un (by omega), pk_us]
        have z1 : t2 1 = nv M TX 2 (nq M TX 3 (q + 1) + 1) := by rw [k2 b, pk_us]
        have z2 : t2 2 = -1 := by rw [k2 b, pk_un (by omega), pk_un (by omega), pk_us]
        by_cases g : hs M TX (kwQ M TX (q + 1)) 94 = true
        · obtain ⟨g1, g2⟩ := of_decide_eq_true g
          rw [if_pos g, bn2_e, if_neg (show ¬ (1 : Int32) = 0 by decide), q_n1c hf hM (by omega), bn3_e] at k1
          rw [g, Bool.not_true, Bool.false_or] at oBe
          rw [if_pos g] at oQe
          rw [if_pos g1, if_pos g2, nI_1, bn_e, bn_e, p_n1 hf hM (by omega), bn3_e, gd_e (by decide), bn4_e, bn6_e, oBe, oQe]
          by_cases d : nq M TX 1 (kwQ M TX (q + 1) + 1) = kwQ M TX (q + 1) + 1
          · rw [if_pos d, if_pos rfl] at k1
            rw [if_pos d, decide_eq_false (fun z => z d)]
            exact ⟨_, _, _, _, _, _, rfl, k1, fun z => by cases z⟩
          · rw [if_neg d, if_neg (show ¬ (1 : Int32) = 0 by decide)] at k1
            rw [if_neg d, decide_eq_true d]
            refine ⟨_, _, _, _, _, _, rfl, k1, fun _ => Or.inr (Or.inl ⟨t, rfl, ?_, ?_, ?_, pk_us.symm⟩)⟩
            · rw [pk_us]; exact nv1_nn
            · rw [pk_un (by omega), z0]
            · rw [pk_un (by omega), z1, p2 b]
        · have g3 : ¬ (if kwQ M TX (q + 1) < M then TX (kwQ M TX (q + 1)) else -1) = 94 := fun z => by
            by_cases y : kwQ M TX (q + 1) < M
            · rw [if_pos y] at z; exact g (decide_eq_true ⟨y, z⟩)
            · rw [if_neg y] at z; exact absurd z (by decide)
          have g' : hs M TX (kwQ M TX (q + 1)) 94 = false := by cases y : hs M TX (kwQ M TX (q + 1)) 94 with | true => exact absurd y g | false => rfl
          rw [if_neg g, bn2_e, if_pos rfl] at k1
          rw [g', Bool.not_false, Bool.true_or] at oBe
          rw [if_neg g] at oQe
          rw [if_neg g3, bn6_e, oBe, oQe]
          refine ⟨_, _, _, _, _, _, rfl, k1, fun _ => Or.inl ⟨t, rfl, ?_, ?_, ?_, rfl⟩⟩
          · rw [z2]; decide
          · rw [z0]
          · rw [z1, p2 b]
      · have b' : kwB M TX (q + 1) = false := by cases y : kwB M TX (q + 1) with | true => exact absurd y b | false => rfl
        rw [if_neg b] at k1
        rw [b', Bool.false_and] at oBe
        rw [if_neg b] at oQe
        rw [if_neg b, if_neg (show ¬ (1 : Int32) = 0 by decide), bn6_e, oBe, oQe]
        exact ⟨_, _, _, _, _, _, rfl, k1, fun z => by cases z⟩
    rw [if_neg t, if_neg t]
    rw [if_neg t] at oBe oQe
    by_cases t : TX q = 45
    · rw [if_pos t, if_pos t]
      rw [if_pos t] at oBe oQe
      rw [p_n3 hf hM e1, bn3_e, q_n3 hf hM e1, bn3_e, oBe, oQe, t]
      unfold F_X4_tell
      rw [gd_e (by decide), bn4_e]
      by_cases b : nq M TX 3 (q + 1) = q + 1
      · rw [if_pos b, if_pos b, gd_e okB0, decide_eq_false (fun z => z b)]
        exact ⟨_, _, _, _, _, _, rfl, rfl, fun z => by cases z⟩
      · rw [if_neg b, if_neg b, gd_e okB1, decide_eq_true b]
        exact ⟨_, _, _, _, _, _, rfl, rfl, fun _ => Or.inr (Or.inr (Or.inl ⟨by decide, Or.inl rfl, pk_us.symm, rfl⟩))⟩
    rw [if_neg t, if_neg t]
    rw [if_neg t] at oBe oQe
    by_cases t : TX q = 100
    · rw [if_pos t, if_pos t]
      rw [if_pos t] at oBe oQe
      rw [p_n3 hf hM e1, bn3_e, q_n3 hf hM e1, bn3_e, oBe, oQe, t]
      unfold F_X4_tell
      rw [gd_e (by decide), bn4_e]
      by_cases b : nq M TX 3 (q + 1) = q + 1
      · rw [if_pos b, if_pos b, gd_e okB0, decide_eq_false (fun z => z b)]
        exact ⟨_, _, _, _, _, _, rfl, rfl, fun z => by cases z⟩
      · rw [if_neg b, if_neg b, gd_e okB1, decide_eq_true b]
        exact ⟨_, _, _, _, _, _, rfl, rfl, fun _ => Or.inr (Or.inr (Or.inl ⟨by decide, Or.inr (Or.inl rfl), pk_us.symm, rfl⟩))⟩
    rw [if_neg t, if_neg t]
    rw [if_neg t] at oBe oQe
    by_cases t : TX q = 102
    · rw [if_pos t, if_pos t]
      rw [if_pos t] at oBe oQe
      rw [p_n1 hf hM e1, bn3_e, q_n1 hf hM e1, bn3_e, oBe, oQe, t]
      unfold F_X4_tell
      rw [gd_e (by decide), bn4_e]
      by_cases b : nq M TX 1 (q + 1) = q + 1
      · rw [if_pos b, if_pos b, gd_e okB0, decide_eq_false (fun z => z b)]
        exact ⟨_, _, _, _, _, _, rfl, rfl, fun z => by cases z⟩
      · rw [if_neg b, if_neg b, gd_e okB1, decide_eq_true b]
        exact ⟨_, _, _, _, _, _, rfl, rfl, fun _ => Or.inr (Or.inr (Or.inl ⟨by decide, Or.inr (Or.inr (Or.inr (Or.inl rfl))), pk_us.symm, rfl⟩))⟩
    rw [if_neg t, if_neg t]
    rw [if_neg t] at oBe oQe
    by_cases t : TX q = 114
    · rw [if_pos t, if_pos t]
      rw [if_pos t] at oBe oQe
      rw [p_n1 hf hM e1, bn3_e, q_n1 hf hM e1, bn3_e, oBe, oQe, t]
      unfold F_X4_tell
      rw [gd_e (by decide), bn4_e]
      by_cases b : nq M TX 1 (q + 1) = q + 1
      · rw [if_pos b, if_pos b, gd_e okB0, decide_eq_false (fun z => z b)]
        exact ⟨_, _, _, _, _, _, rfl, rfl, fun z => by cases z⟩
      · rw [if_neg b, if_neg b, gd_e okB1, decide_eq_true b]
        exact ⟨_, _, _, _, _, _, rfl, rfl, fun _ => Or.inr (Or.inr (Or.inl ⟨by decide, Or.inr (Or.inr (Or.inr (Or.inr rfl))), pk_us.symm, rfl⟩))⟩
    rw [if_neg t, if_neg t]
    rw [if_neg t] at oBe oQe
    by_cases t : TX q = 116
    · rw [if_pos t, if_pos t]
      rw [if_pos t] at oBe oQe
      unfold F_X4_tell
      rw [gd_e (by decide), bn4_e, oBe, oQe]
      exact ⟨_, _, _, _, _, _, rfl, rfl, fun _ => Or.inr (Or.inr (Or.inr (Or.inl ⟨rfl, t⟩)))⟩
    rw [if_neg t, if_neg t]
    rw [if_neg t] at oBe oQe
    by_cases t : TX q = 117
    · rw [if_pos t, if_pos t]
      rw [if_pos t] at oBe oQe
      rw [p_n3 hf hM e1, bn3_e, q_n3 hf hM e1, bn3_e, oBe, oQe, t]
      unfold F_X4_tell
      rw [gd_e (by decide), bn4_e]
      by_cases b : nq M TX 3 (q + 1) = q + 1
      · rw [if_pos b, if_pos b, gd_e okB0, decide_eq_false (fun z => z b)]
        exact ⟨_, _, _, _, _, _, rfl, rfl, fun z => by cases z⟩
      · rw [if_neg b, if_neg b, gd_e okB1, decide_eq_true b]
        exact ⟨_, _, _, _, _, _, rfl, rfl, fun _ => Or.inr (Or.inr (Or.inl ⟨by decide, Or.inr (Or.inr (Or.inl rfl)), pk_us.symm, rfl⟩))⟩
    rw [if_neg t, if_neg t]
    rw [if_neg t] at oBe oQe
    by_cases t : TX q = 119
    · rw [if_pos t, if_pos t]
      rw [if_pos t] at oBe oQe
      obtain ⟨w, p1, p2⟩ := p_kw (fl := fl) (TX := TX) (o1 := o1) (o2 := o2) (o3 := o3) (o4 := o4) (p2 := 119) hf hM e1 (by decide)
      obtain ⟨t2, k1, k2⟩ := q_kwK (fl := fl) (TX := TX) (told := upd told 2 (-1)) hf hM e1 (fun r a t => some (r, a, TX q, t)) (fun a3 t3 => some (1, a3, TX q, t3))
      rw [p1, bn6_e, oBe, oQe]
      by_cases b : kwB M TX (q + 1) = true
      · rw [if_pos b] at k1
        rw [if_pos b, if_pos b]
        refine ⟨_, _, _, _, _, _, rfl, k1, fun _ => Or.inr (Or.inr (Or.inr (Or.inr ⟨rfl, t, ?_, ?_⟩)))⟩
        · rw [k2 b, pk_un (by omega), pk_us]
        · rw [k2 b, pk_us, p2 b]
      · rw [if_neg b] at k1
        rw [if_neg b, if_neg b]
        exact ⟨_, _, _, _, _, _, rfl, k1, fun z => absurd z b⟩
    rw [if_neg t, if_neg t]
    rw [if_neg t] at oBe oQe
    rw [oBe, oQe]
    exact ⟨_, _, _, _, _, _, rfl, rfl, fun z => by cases z⟩
  · have oBe : oB M TX q = false := if_neg e
    have oQe : oQ M TX q = q := if_neg e
    obtain rfl : q = M := by omega
    rw [if_neg e, if_neg (by decide), if_neg (by decide), if_neg (by decide), if_neg (by decide), if_neg (by decide), if_neg (by decide), if_neg (by decide), if_neg (by decide), if_pos rfl, oBe, oQe]
    exact ⟨_, _, _, _, _, _, rfl, rfl, fun z => by cases z⟩
