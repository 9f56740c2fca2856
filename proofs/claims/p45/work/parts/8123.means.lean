/-! means, savings -/
variable {fl n : Nat} {ks ws ts a : Nat → Int32} {key lev hid cn ct' ch z : Int32} {th g f p1 p2 x1 x2 x3 x4 x5 : Int32} {way : Nat → Int32}
theorem r_meanL (hn : n ≤ 24) (hn0 : n ≠ 0) (hf : 2000 ≤ fl) (ht : tw n ts) (hm : mx n ts n ≤ 5) (hM : MR n ks ws ts cn ct' ch hid a) {T : Int32} : ∀ (d j m m' : Nat) (x1 x2 x3 x4 x5 g f c : Int32) (way : Nat → Int32), j + d = n → d < m → d < m' →
    ∃ v y1 y2 y3 y4 y5 g2 f2 way2, F_X7_meanSteps_22 fl (nI n) hid ks ts m x1 x2 x3 x4 x5 c (nI j) = some (0, v, y1, y2, y3, y4, y5) ∧ F_X8_meanSteps_9 fl a m' T g f way c (nI j) = some (v, T, g2, f2, way2) := by
  intro d
  induction d with
  | zero =>
    intro j m m' x1 x2 x3 x4 x5 g f c way hj hm1 hm2
    obtain ⟨m, rfl⟩ : ∃ q, m = q + 1 := ⟨m - 1, by omega⟩
    obtain ⟨m', rfl⟩ : ∃ q, m' = q + 1 := ⟨m' - 1, by omega⟩
    have e := (nI_leI (a := n) (b := j) (by omega) (by omega)).mpr (by omega)
    have ok : okD (FP.ddiv (FP.i2d c) (FP.i2d (nI n))) = true := okD_div (by rw [nI_toInt (by omega)]; omega)
    rw [F_X7_meanSteps_22, F_X8_meanSteps_9]
    unfold F_X3_size
    rw [bn_e, if_pos e, bn_e, gd_e ok, gl0, gl0, gl0, c0, hM.1, if_pos e, if_neg (nI_ne0 (by omega) (by omega)), gd_e ok]
    exact ⟨_, _, _, _, _, _, _, _, _, rfl, rfl⟩
  | succ d ih =>
    intro j m m' x1 x2 x3 x4 x5 g f c way hj hm1 hm2
    obtain ⟨m, rfl⟩ : ∃ q, m = q + 1 := ⟨m - 1, by omega⟩
    obtain ⟨m', rfl⟩ : ∃ q, m' = q + 1 := ⟨m' - 1, by omega⟩
    have hj2 : j < n := by omega
    have e : ¬ nI n ≤ nI j := fun q => by have := (nI_leI (by omega) (by omega)).mp q; omega
    obtain ⟨y1, y2, y3, y4, y5, e1⟩ := p_stepsS (fl := fl) (ks := ks) (hid := hid) (key := ks j) (x1 := x1) (x2 := x2) (x3 := x3) (x4 := x4) (x5 := x5) hn hf ht hm
    obtain ⟨g2, f2, way2, e2⟩ := q_stepsS (fl := fl) (key := ks j) (g := g) (f := f) (way := way) hn hf ht hm hM
    rw [F_X7_meanSteps_22, F_X8_meanSteps_9]
    unfold F_X3_size
    rw [bn_e, if_neg e, gl0, c0, hM.1, if_neg e, p_keyOf hn (by omega), bn_e, if_pos hj2, e1, bn6_e, q_key (by omega), bn_e, (hM.2.2.2.2.2 j hj2).1, e2, bn4_e, nI_1]
    exact ih (j + 1) m m' _ _ _ _ _ _ _ _ _ (by omega) (by omega) (by omega)
theorem m_meanSteps (hf : 2000 ≤ fl) (hL : LL z hid ks ws ts cn ct' ch a) : ∃ kk r y1 y2 y3 y4 y5 b th2 g2 f2 way2, F_X7_meanSteps fl z hid ks ts x1 x2 x3 x4 x5 = some (kk, r, y1, y2, y3, y4, y5) ∧ F_X8_meanSteps fl th g f a way = some (b, th2, g2, f2, way2) ∧ ((kk = 0 ∧ th2 = 0 ∧ b = r) ∨ (kk = 6 ∧ th2 = 1)) := by
  obtain ⟨n, rfl, hl, hM⟩ := hL
  have hm := LL_m hl hf
  have hn := hl.1
  unfold F_X7_meanSteps F_X8_meanSteps
  unfold F_X3_size
  rw [bn_e]
  by_cases n0 : n = 0
  · subst n0
    obtain ⟨fl', rfl⟩ : ∃ q, fl = q + 1 := ⟨fl - 1, by omega⟩
    rw [if_pos nI_0, F_X8_meanSteps_9, gl0, gl0, c0, hM.1, if_pos (by decide), if_pos nI_0]
    unfold F_X8_raises
    rw [bn2_e]
    exact ⟨_, _, _, _, _, _, _, _, _, _, _, _, rfl, rfl, Or.inr ⟨rfl, rfl⟩⟩
  · rw [if_neg (nI_ne0 (by omega) (by omega))]
    obtain ⟨v, z1, z2, z3, z4, z5, g2, f2, way2, h1, h2⟩ := r_meanL (fl := fl) (ks := ks) (T := 0) hn n0 hf hl.2.2.1 hm hM n 0 fl fl x1 x2 x3 x4 x5 g f 0 way (by omega) (by omega) (by omega)
    rw [nI_0] at h1 h2
    exact ⟨_, _, _, _, _, _, _, _, _, _, _, _, h1, h2, Or.inl ⟨rfl, rfl, rfl⟩⟩
theorem m_meanRungs (hf : 2000 ≤ fl) (hL : LL z hid ks ws ts cn ct' ch a) : ∃ kk r b th2, F_X7_meanRungs fl z ts = some (kk, r) ∧ F_X8_meanRungs fl th a = some (b, th2) ∧ ((kk = 0 ∧ th2 = 0 ∧ b = r) ∨ (kk = 6 ∧ th2 = 1)) := by
  obtain ⟨n, rfl, hl, hM⟩ := hL
  have hn := hl.1
  obtain ⟨v, a1, a2⟩ := q_all (fl := fl) hn hf hM
  unfold F_X7_meanRungs F_X8_meanRungs F_X3_size F_X8_raises
  rw [bn_e, a1, a2, gl0, c0, hM.1]
  by_cases n0 : n = 0
  · subst n0
    rw [if_pos nI_0, if_pos nI_0, bn2_e]
    exact ⟨_, _, _, _, rfl, rfl, Or.inr ⟨rfl, rfl⟩⟩
  · have ok : okF (FP.fdiv (FP.i2f v) (FP.i2f (nI n))) = true := okF_div (by rw [nI_toInt (by omega)]; omega)
    rw [if_neg (nI_ne0 (by omega) (by omega)), if_neg (nI_ne0 (by omega) (by omega)), bn_e, bn_e, bn_e, gl0, gd_e ok, gd_e ok]
    exact ⟨_, _, _, _, rfl, rfl, Or.inl ⟨rfl, rfl, rfl⟩⟩
/-- what is saved -/
def SV (sv : Int32) (z hid : Int32) (ks ws ts : Nat → Int32) (cn ct ch : Int32) (isv : Int32) (a : Nat → Int32) : Prop := sv = isv ∧ (sv = 0 ∨ (sv = 1 ∧ LL z hid ks ws ts cn ct ch a))
theorem m_save (hf : 2000 ≤ fl) (hL : LL z hid ks ws ts cn ct' ch a) {sv isv s1 s2 s6 s7 s8 : Int32} {s3 s4 s5 sa : Nat → Int32} : ∃ r z2 hid2 ks2 ws2 ts2 cn2 ct2 ch2 sa2, F_X7_save fl sv z hid ks ws ts cn ct' ch s1 s2 s3 s4 s5 s6 s7 s8 = some (r, 1, z2, hid2, ks2, ws2, ts2, cn2, ct2, ch2) ∧ F_X8_save fl isv th a sa = some (r, 1, 0, sa2) ∧ SV 1 z2 hid2 ks2 ws2 ts2 cn2 ct2 ch2 1 sa2 := by
  obtain ⟨ks', ws', ts', e1, h1⟩ := p_copy (fl := fl) hL (s1 := s1) (s2 := s2) (s3 := s3) (s4 := s4) (s5 := s5) (s6 := s6) (s7 := s7) (s8 := s8)
  have e2 := q_saveL (fl := fl) (a := a) (sv := sa) (th := 0) (i := 1) 77 0 fl (by omega) (by omega)
  rw [cpy_0] at e2
  have h0 : a 0 = z := by obtain ⟨n, rfl, -, hM⟩ := hL; exact hM.1
  unfold F_X7_save F_X8_save F_X3_size
  rw [e1, bn8_e, bn_e]
  refine ⟨z, z, hid, ks', ws', ts', cn, ct', ch, cpy a sa 0 0 77, rfl, ?_, rfl, Or.inr ⟨rfl, LL_a h1 (fun i hi => ?_)⟩⟩
  · rw [← h0]; exact e2
  · have e3 := cpy_in (f := a) (g := sa) (o := 0) (d := 0) hi
    rw [Nat.zero_add] at e3; exact e3
theorem m_restore (hf : 2000 ≤ fl) (hL : LL z hid ks ws ts cn ct' ch a) {sv isv s1 s2 s6 s7 s8 u am : Int32} {s3 s4 s5 sa : Nat → Int32} (hS : SV sv s1 s2 s3 s4 s5 s6 s7 s8 isv sa) :
    (F_X7_restore fl sv z hid ks ws ts cn ct' ch am s1 s2 s3 s4 s5 s6 s7 s8 = some (5, 0, z, hid, ks, ws, ts, cn, ct', ch, am) ∧ F_X8_restore fl u isv th a sa = some (0, u, 1, a)) ∨
    ∃ r z2 hid2 ks2 ws2 ts2 cn2 ct2 ch2 a2, F_X7_restore fl sv z hid ks ws ts cn ct' ch am s1 s2 s3 s4 s5 s6 s7 s8 = some (0, r, z2, hid2, ks2, ws2, ts2, cn2, ct2, ch2, 0) ∧ F_X8_restore fl u isv th a sa = some (r, 0, 0, a2) ∧ LL z2 hid2 ks2 ws2 ts2 cn2 ct2 ch2 a2 := by
  obtain ⟨rfl, h⟩ := hS
  unfold F_X7_restore F_X8_restore F_X8_raises F_X3_size F_X2_clear
  rcases h with rfl | ⟨rfl, hL2⟩
  · rw [if_pos rfl, if_pos rfl]
    exact Or.inl ⟨rfl, rfl⟩
  · obtain ⟨ks', ws', ts', e1, h1⟩ := p_copy (fl := fl) hL2 (s1 := z) (s2 := hid) (s3 := ks) (s4 := ws) (s5 := ts) (s6 := cn) (s7 := ct') (s8 := ch)
    have e2 := q_restL (fl := fl) (sv := sa) (now := a) (un := u) (th := 0) (i := 1) 77 0 fl (by omega) (by omega)
    rw [cpy_0] at e2
    have h0 : sa 0 = s1 := by obtain ⟨n, rfl, -, hM⟩ := hL2; exact hM.1
    rw [if_neg (by decide), if_neg (by decide), e1, bn8_e, bn_e, bn_e]
    refine Or.inr ⟨s1, s1, s2, ks', ws', ts', s6, s7, s8, cpy sa a 0 0 77, rfl, ?_, LL_a h1 (fun i hi => ?_)⟩
    · rw [← h0]; exact e2
    · have e3 := cpy_in (f := sa) (g := a) (o := 0) (d := 0) hi
      rw [Nat.zero_add] at e3; exact e3
