/-! the law's String constants -/
def kcs : List (Nat × String × List Nat) := [(265, "+", [43]), (273, "=", [61]), (275, ";t", [59, 116]), (281, "f", [102]), (283, ";u", [59, 117]), (308, "q", [113]), (313, "t;t;t;f0", [116, 59, 116, 59, 116, 59, 102, 48]), (315, "-", [45]), (317, ";-", [59, 45])]
def kS (ad : Nat → Nat) (A : Nat → Prop) (U : State) (H : Heap) : Prop := ∀ (i : Nat) (x : Nat × String × List Nat), kcs[i]? = some x → vk_R RL x.1 x.2.1 (ad i) U ∧ strC (ad i) x.2.2.length (fun j => x.2.2.getD j 0) A U H
theorem kS.warm {ad : Nat → Nat} {A : Nat → Prop} {s U : State} {H : Heap} (hW : s.WarmedH U.vm) (h : kS ad A s H) : kS ad A U H := fun i x hx => ⟨vk_R.warm hW (h i x hx).1, (h i x hx).2.moved hW.alike⟩
theorem kS.same {ad : Nat → Nat} {A : Nat → Prop} {u U : State} {H : Heap} (hv : U.vm = u.vm) (hvm : u.vm.Alike U.vm) (h : kS ad A u H) : kS ad A U H := fun i x hx => ⟨vk_R.same hv (h i x hx).1, (h i x hx).2.moved hvm⟩
theorem kS.kept {ad : Nat → Nat} {A : Nat → Prop} {U : State} {H H1 : Heap} (h : kS ad A U H) (hq : ∀ a : Nat, a < H.size → ¬ A a → H1[a]? = H[a]?) : kS ad A U H1 := fun i x hx => ⟨(h i x hx).1, (h i x hx).2.kept hq⟩
theorem kS.narrow {ad : Nat → Nat} {A B : Nat → Prop} {U : State} {H : Heap} (h : kS ad A U H) (hAB : ∀ q, B q → A q) : kS ad B U H := fun i x hx => ⟨(h i x hx).1, (h i x hx).2.narrow hAB⟩
