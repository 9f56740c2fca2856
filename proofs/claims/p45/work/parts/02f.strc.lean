/-! Strings: what is known of one that isn't the method's own: old, or given -/
def strC (a ln : Nat) (t : Nat → Nat) (A : Nat → Prop) (U : State) (H : Heap) : Prop := ∃ tt : Nat, va_O "java/lang/String" a A U H ∧ va_OF "java/lang/String" "coder" "B" (.int 0) a A U H ∧ va_OF "java/lang/String" "value" "[B" (.ref tt) a A U H ∧ va_T .byte tt ln (fun j => .int (sb_b (t j))) A U H ∧ ∀ j, j < ln → t j < 256
theorem strC.moved {a ln : Nat} {t : Nat → Nat} {A : Nat → Prop} {u U : State} {H : Heap} (hvm : u.vm.Alike U.vm) (h : strC a ln t A u H) : strC a ln t A U H := by
  obtain ⟨tt, h1, h2, h3, h4, h5⟩ := h
  exact ⟨tt, h1.moved hvm, h2.moved hvm, h3.moved hvm, h4.moved hvm, h5⟩
theorem strC.kept {a ln : Nat} {t : Nat → Nat} {A : Nat → Prop} {U : State} {H H1 : Heap} (h : strC a ln t A U H) (hq : ∀ a : Nat, a < H.size → ¬ A a → H1[a]? = H[a]?) : strC a ln t A U H1 := by
  obtain ⟨tt, h1, h2, h3, h4, h5⟩ := h
  exact ⟨tt, h1.kept hq, h2.kept hq, h3.kept hq, h4.kept hq, h5⟩
theorem strC.narrow {a ln : Nat} {t : Nat → Nat} {A B : Nat → Prop} {U : State} {H : Heap} (h : strC a ln t A U H) (hAB : ∀ q, B q → A q) : strC a ln t B U H := by
  obtain ⟨tt, h1, h2, h3, h4, h5⟩ := h
  exact ⟨tt, h1.narrow hAB, h2.narrow hAB, h3.narrow hAB, h4.narrow hAB, h5⟩
