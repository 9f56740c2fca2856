/-! texts: every sign is a sign -/
variable {fl : Nat} {th p1 : Int32}
theorem ok_nar {x : Int32} : okC (vp_nar .char x) = true := by
  rw [vp_nar_char]
  have h : x.toUInt32.toUInt16.toUInt32.toNat < 65536 := by
    rw [UInt16.toNat_toUInt32]; exact x.toUInt32.toUInt16.toNat_lt
  have e : x.toUInt32.toUInt16.toUInt32.toInt32 = nI x.toUInt32.toUInt16.toUInt32.toNat := by
    apply Int32.toInt_inj.mp
    rw [nI_toInt (by omega)]
    rw [UInt32.toInt32, Int32.toInt, BitVec.toInt_eq_toNat_of_lt (by show 2 * x.toUInt32.toUInt16.toUInt32.toBitVec.toNat < 2 ^ 32; have : x.toUInt32.toUInt16.toUInt32.toBitVec.toNat = x.toUInt32.toUInt16.toUInt32.toNat := rfl; omega)]
    rfl
  rw [e]
  exact decide_eq_true ⟨(nlt_iff_le _ _).mp (nI_nlt0 (by omega)), (nI_leI (b := 65535) (by omega) (by omega)).mpr (by omega)⟩
/-- a text: its length, its signs -/
def TXT (ln : Int32) (tx : Nat → Int32) : Prop := ∃ m, m ≤ 60 ∧ ln = nI m ∧ ∀ j, j < m → okC (tx j) = true
theorem m_appendT {ln : Int32} {tx : Nat → Int32} (h : TXT ln tx) : ∃ kk r ln2 tx2 b th2, F_X7_append fl ln tx p1 = some (kk, r, ln2, tx2) ∧ F_X8_append fl ln th tx p1 = some (b, ln2, th2, tx2) ∧ OU1 5 kk r b th2 ∧ TXT ln2 tx2 := by
  obtain ⟨m, hm, rfl, hc⟩ := h
  unfold F_X7_append F_X8_append F_X5_take F_X5_length F_X8_raises
  rw [if_neg (nI_nlt0 (by omega))]
  by_cases c : m = 60
  · subst c
    rw [if_neg (by decide), bn3_e, if_pos rfl, if_pos (by decide)]
    exact ⟨_, _, _, _, _, _, rfl, rfl, Or.inr ⟨rfl, rfl, rfl⟩, 60, by omega, rfl, hc⟩
  · rw [if_pos (show nI m < (60 : Int32) from (nI_ltI (a := m) (b := 60) (by omega) (by omega)).mpr (by omega)), if_neg (show ¬ nI m = (60 : Int32) from fun q => c ((nI_eq (a := m) (b := 60) (by omega) (by omega)).mp q)), g_lit (by omega) (by decide), g_lit (by omega) (by decide), bn3_e, if_neg (by decide)]
    refine ⟨_, _, _, _, _, _, rfl, rfl, Or.inl ⟨rfl, rfl, rfl⟩, m + 1, by omega, nI_1 m, fun j hj => ?_⟩
    rw [nI_clamp (by omega)]
    by_cases e : j = m
    · subst e; rw [pk_us]; exact ok_nar
    · rw [pk_un e]; exact hc j (by omega)
