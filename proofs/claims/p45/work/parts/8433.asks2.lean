/-! asks, whole -/
set_option maxHeartbeats 4000000 in
set_option maxRecDepth 100000 in
theorem oL_asks (l : Launch) (hst : l.stackTraces = false) (D : va_G) (y : Nat → ClassId) (sz at_ : Nat) {q : Lad} {us : List Lad} {sv : Option Lad} {rs dt ix lf : Int32} {M : Nat} {tx : Nat → Int32} {NN : Nat} {TT : Nat → Nat} (V : va_W) (hO : Ob y at_ q us sv rs dt ix lf M tx NN TT V) : Met l yL_asks wsL_asks (rmx 14 460 2300 12000) (zlP D y V sz [.ref at_]) (oQl D y (fun r V' => r = askV q ∧ ∃ NN TT, Ob y at_ q us sv rs dt ix lf M tx NN TT V') V sz) 2300 12000 (va_A V sz) := by
  refine Met.ofW (cc := cL_asks) (maxL := 6) (ret := (some .long)) (by decide) rfl ?_
  intro p e s mi args below meth c s₁ B hml hv
  obtain ⟨hav, hsz, hP, hK, hD0, hZ, hN, hJ⟩ := hv
  have hx := B.exec
  have hb := B.bytes
  have hr := B.returns
  have hts := atoms_spec (ws := wsL_asks) B.pre
  have hown : s.vm.findClass RL = some mi.cls := findClass_of_methodNamed B.named
  have hlocks := B.notSynchronized
  subst hsz
  have hD := hD0.self (sz := s.heap.size)
  obtain ⟨A, hAe⟩ : ∃ A : Nat → Prop, va_A V s.heap.size = A := ⟨_, rfl⟩
  rw [hAe] at hD hZ hJ
  have hA : ∀ q, s.heap.size ≤ q → A q := fun q h => by rw [← hAe]; exact Or.inr h
  have hS : va_S A s.heap s.heap [] := va_S.rf
  have hP : va_P D vwCl (V ++ []) s.heap := by rw [List.append_nil]; exact hP
  have hD : va_D A (V ++ []) := by rw [List.append_nil]; exact hD
  have hG := Ob_GL hO
  obtain ⟨n, hn24, hn, hnc⟩ := GL_n hG
  have C0 : mC p l c mi s args D y A cL_asks 6 wsL_asks := ⟨hx, hb, hml, hown, hts, hK, hA, hZ, hN, hJ, hst⟩
  have hv : ∀ x, x = lpL (ak4 q) 10 (lpL (ak3 q) 5 (lpL (ak2 q) n (lpL (ak1 q) 8 (ak0 q)))) → ak5 q x = askV q := fun x h => by rw [h]; unfold askV; rw [hnc]
  have k5 := as_5 (p := p) (e := e) (below := below) (meth := meth) (V0 := V) (q := q) (us := us) (sv := sv) (rs := rs) (dt := dt) (ix := ix) (lf := lf) (M := M) (tx := tx) (at_ := at_) hst C0 hr hlocks hAe (lpL (ak4 q) 10 (lpL (ak3 q) 5 (lpL (ak2 q) n (lpL (ak1 q) 8 (ak0 q))))) (hv _ rfl)
  have l4 := as_L4 hst C0 (lpL (ak3 q) 5 (lpL (ak2 q) n (lpL (ak1 q) 8 (ak0 q)))) k5 10 0 rfl
  rw [lpL_0] at l4
  have k4 := as_4 hst C0 (lpL (ak3 q) 5 (lpL (ak2 q) n (lpL (ak1 q) 8 (ak0 q)))) l4
  have l3 := as_LL3 hst C0 hG (lpL (ak2 q) n (lpL (ak1 q) 8 (ak0 q))) k4 5 0 rfl
  rw [lpL_0] at l3
  have k3 := as_3 hst C0 (lpL (ak2 q) n (lpL (ak1 q) 8 (ak0 q))) _ _ l3
  have k3 := mW_mono k3 (CB2 := 10 + 38 * n + 1) (SB2 := 60 + 228 * n + 6) (by omega) (by omega)
  have l2 := as_L2 hst C0 (lpL (ak1 q) 8 (ak0 q)) n hn hn24 k3 n 0 (Nat.zero_add n)
  rw [lpL_0] at l2
  have k2 := as_1 hst C0 (lpL (ak1 q) 8 (ak0 q)) l2
  have l1 := as_L1 hst C0 (ak0 q) k2 8 0 rfl
  rw [lpL_0] at l1
  have k0 := as_0 hst C0 l1
  refine W_entry hav (Nat.le_of_ble_eq_true rfl) (fun ls hl => ?_)
  exact k0 0 0 (Nat.le_refl 0) (Nat.le_refl 0) V NN TT trivial hO s.heap [] hP hD hS ls hl
