/-! helpers of my own: option steps, contracts over lists of cells, calls -/
theorem ift {α : Type} {c : Prop} [Decidable c] {a b : α} {y : α} (h : (if c then a else b) = y) (hc : c) : a = y := by rw [if_pos hc] at h; exact h
theorem iff_ {α : Type} {c : Prop} [Decidable c] {a b : α} {y : α} (h : (if c then a else b) = y) (hc : ¬ c) : b = y := by rw [if_neg hc] at h; exact h
/-- an index is in its row, or nothing -/
def gi {α : Type} (i : Int32) (n : Nat) (x : Option α) : Option α := if i < 0 ∨ n ≤ i.toNatClampNeg then none else x
theorem gi_i {α : Type} {i : Int32} {n : Nat} {x : Option α} {y : α} (h : gi i n x = some y) : vp_in i n ∧ x = some y := by
  unfold gi at h
  split at h
  · cases h
  · rename_i hc; exact ⟨hc, h⟩
theorem gi_e {α : Type} {i : Int32} {n : Nat} {x : Option α} (h : vp_in i n) : gi i n x = x := if_neg h
/-- something holds, or nothing -/
def gd {α : Type} (c : Prop) [Decidable c] (x : Option α) : Option α := if c then x else none
theorem gd_i {α : Type} {c : Prop} [Decidable c] {x : Option α} {y : α} (h : gd c x = some y) : c ∧ x = some y := by
  unfold gd at h
  split at h
  · rename_i hc; exact ⟨hc, h⟩
  · cases h
theorem gd_e {α : Type} {c : Prop} [Decidable c] {x : Option α} (h : c) : gd c x = x := if_pos h
def bn {α γ : Type} (x : Option α) (f : α → Option γ) : Option γ := match x with
  | some a => f a
  | none => none
theorem bn_i {α γ : Type} {x : Option α} {f : α → Option γ} {y : γ} (h : bn x f = some y) : ∃ a, x = some a ∧ f a = some y := by
  cases x with
  | none => cases h
  | some a => exact ⟨a, rfl, h⟩
theorem bn_e {α γ : Type} {a : α} {f : α → Option γ} : bn (some a) f = f a := rfl
def bn2 {α β γ : Type} (x : Option (α × β)) (f : α → β → Option γ) : Option γ := bn x fun q => f q.1 q.2
theorem bn2_i {α β γ : Type} {x : Option (α × β)} {f : α → β → Option γ} {y : γ} (h : bn2 x f = some y) : ∃ a b, x = some (a, b) ∧ f a b = some y := by
  obtain ⟨⟨a, b⟩, h1, h2⟩ := bn_i h; exact ⟨a, b, h1, h2⟩
def bn3 {α β δ γ : Type} (x : Option (α × β × δ)) (f : α → β → δ → Option γ) : Option γ := bn2 x fun a q => f a q.1 q.2
theorem bn3_i {α β δ γ : Type} {x : Option (α × β × δ)} {f : α → β → δ → Option γ} {y : γ} (h : bn3 x f = some y) : ∃ a b d, x = some (a, b, d) ∧ f a b d = some y := by
  obtain ⟨a, ⟨b, d⟩, h1, h2⟩ := bn2_i h; exact ⟨a, b, d, h1, h2⟩
def bn4 {α β δ ε γ : Type} (x : Option (α × β × δ × ε)) (f : α → β → δ → ε → Option γ) : Option γ := bn3 x fun a b q => f a b q.1 q.2
theorem bn4_i {α β δ ε γ : Type} {x : Option (α × β × δ × ε)} {f : α → β → δ → ε → Option γ} {y : γ} (h : bn4 x f = some y) : ∃ a b d e, x = some (a, b, d, e) ∧ f a b d e = some y := by
  obtain ⟨a, b, ⟨d, e⟩, h1, h2⟩ := bn3_i h; exact ⟨a, b, d, e, h1, h2⟩
def bn5 {A1 A2 A3 A4 A5 γ : Type} (x : Option (A1 × A2 × A3 × A4 × A5)) (f : A1 → A2 → A3 → A4 → A5 → Option γ) : Option γ := bn4 x fun a b d q => f a b d q.1 q.2
theorem bn5_i {A1 A2 A3 A4 A5 γ : Type} {x : Option (A1 × A2 × A3 × A4 × A5)} {f : A1 → A2 → A3 → A4 → A5 → Option γ} {y : γ} (h : bn5 x f = some y) : ∃ a1 a2 a3 a4 a5, x = some (a1, a2, a3, a4, a5) ∧ f a1 a2 a3 a4 a5 = some y := by
  obtain ⟨a, b, d, ⟨e, g⟩, h1, h2⟩ := bn4_i h; exact ⟨a, b, d, e, g, h1, h2⟩
def bn6 {A1 A2 A3 A4 A5 A6 γ : Type} (x : Option (A1 × A2 × A3 × A4 × A5 × A6)) (f : A1 → A2 → A3 → A4 → A5 → A6 → Option γ) : Option γ := bn5 x fun a b d e q => f a b d e q.1 q.2
theorem bn6_i {A1 A2 A3 A4 A5 A6 γ : Type} {x : Option (A1 × A2 × A3 × A4 × A5 × A6)} {f : A1 → A2 → A3 → A4 → A5 → A6 → Option γ} {y : γ} (h : bn6 x f = some y) : ∃ a1 a2 a3 a4 a5 a6, x = some (a1, a2, a3, a4, a5, a6) ∧ f a1 a2 a3 a4 a5 a6 = some y := by
  obtain ⟨a, b, d, e, ⟨g, k⟩, h1, h2⟩ := bn5_i h; exact ⟨a, b, d, e, g, k, h1, h2⟩
def bn7 {A1 A2 A3 A4 A5 A6 A7 γ : Type} (x : Option (A1 × A2 × A3 × A4 × A5 × A6 × A7)) (f : A1 → A2 → A3 → A4 → A5 → A6 → A7 → Option γ) : Option γ := bn6 x fun a b d e g q => f a b d e g q.1 q.2
theorem bn7_i {A1 A2 A3 A4 A5 A6 A7 γ : Type} {x : Option (A1 × A2 × A3 × A4 × A5 × A6 × A7)} {f : A1 → A2 → A3 → A4 → A5 → A6 → A7 → Option γ} {y : γ} (h : bn7 x f = some y) : ∃ a1 a2 a3 a4 a5 a6 a7, x = some (a1, a2, a3, a4, a5, a6, a7) ∧ f a1 a2 a3 a4 a5 a6 a7 = some y := by
  obtain ⟨a, b, d, e, g, ⟨k, j⟩, h1, h2⟩ := bn6_i h; exact ⟨a, b, d, e, g, k, j, h1, h2⟩
def bn8 {A1 A2 A3 A4 A5 A6 A7 A8 γ : Type} (x : Option (A1 × A2 × A3 × A4 × A5 × A6 × A7 × A8)) (f : A1 → A2 → A3 → A4 → A5 → A6 → A7 → A8 → Option γ) : Option γ := bn7 x fun a b d e g k q => f a b d e g k q.1 q.2
theorem bn8_i {A1 A2 A3 A4 A5 A6 A7 A8 γ : Type} {x : Option (A1 × A2 × A3 × A4 × A5 × A6 × A7 × A8)} {f : A1 → A2 → A3 → A4 → A5 → A6 → A7 → A8 → Option γ} {y : γ} (h : bn8 x f = some y) : ∃ a1 a2 a3 a4 a5 a6 a7 a8, x = some (a1, a2, a3, a4, a5, a6, a7, a8) ∧ f a1 a2 a3 a4 a5 a6 a7 a8 = some y := by
  obtain ⟨a, b, d, e, g, k, ⟨j, i⟩, h1, h2⟩ := bn7_i h; exact ⟨a, b, d, e, g, k, j, i, h1, h2⟩
/-- a name for a value -/
def lt {α γ : Type} (t : α) (f : α → γ) : γ := f t
theorem lt_i {α γ : Type} {t : α} {f : α → γ} {y : γ} (h : lt t f = y) {x : α} (e : x = t) : f x = y := by subst e; exact h
def okB (x : Int32) : Bool := decide (x = 0 ∨ x = 1)
def okC (x : Int32) : Bool := decide (0 ≤ x ∧ x ≤ 65535)
theorem okB_n {x : Int32} (h : okB x = true) : narrow .boolean (.int x) = .int x ∧ fits .boolean (.int x) = true := by
  rcases of_decide_eq_true h with h | h <;> subst h <;> exact ⟨by decide +kernel, by decide +kernel⟩
theorem okC_n {x : Int32} (h : okC x = true) : narrow .char (.int x) = .int x ∧ fits .char (.int x) = true := by
  obtain ⟨h1, h2⟩ := of_decide_eq_true h
  obtain ⟨q, hq, rfl⟩ := nI_of2 (x := x) (M := 65535) (n := 65535) (by decide) (fun z => absurd h1 (by rw [Int32.le_iff_toInt_le]; rw [Int32.lt_iff_toInt_lt] at z; omega)) h2
  exact pk_charN (by omega)
/-- the arrays' classes -/
abbrev tyl (y : Nat → ClassId) : List (ClassId × FieldType) := [(y 0, .int), (y 1, .char), (y 2, .byte), (y 3, .long), (y 3, .long), (y 5, .object "SkipArchive$Ladder")]
abbrev rmq (f n : Nat) : Room := { frames := f, cells := 0, slots := 0, locals := n }
abbrev rmx (f n c z : Nat) : Room := { frames := f, cells := c, slots := z, locals := n }
def rdP (D : va_G) (y : Nat → ClassId) (ws : va_W) (av : List Value) : Array Value → State → Prop := va_Pc av (fun U => va_P D vwCl ws U.heap ∧ va_K D vwCl (tyl y) U)
theorem rdP_blind {D : va_G} {y : Nat → ClassId} {ws : va_W} {av : List Value} : FrameBlind (rdP D y ws av) := fun a U g mk q => ⟨q.1, q.2.1, va_K.moved (u := U) (U := U.calling g mk a) (Vm.Alike.refl U.vm) q.2.2⟩
def wrP (D : va_G) (y : Nat → ClassId) (ws : va_W) (sz : Nat) (av : List Value) : Array Value → State → Prop := va_Pc av (fun U => U.heap.size = sz ∧ va_P D vwCl ws U.heap ∧ va_K D vwCl (tyl y) U ∧ va_D (fun _ => True) ws)
theorem wrP_blind {D : va_G} {y : Nat → ClassId} {ws : va_W} {sz : Nat} {av : List Value} : FrameBlind (wrP D y ws sz av) := fun a U g mk q => ⟨q.1, q.2.1, q.2.2.1, va_K.moved (u := U) (U := U.calling g mk a) (Vm.Alike.refl U.vm) q.2.2.2.1, q.2.2.2.2⟩
def wrB (D : va_G) (y : Nat → ClassId) (w1 ws : va_W) (sz : Nat) (t : State) : Prop := va_P D vwCl w1 t.heap ∧ va_K D vwCl (tyl y) t ∧ va_D (va_A ws sz) w1
def wQi (D : va_G) (y : Nat → ClassId) (r : Int32) (w1 ws : va_W) (sz : Nat) : Array Value → State → Outcome → State → Prop := va_Qi (fun r' (_ : Unit) => r' = r) (fun _ t => wrB D y w1 ws sz t) (va_A ws sz)
def wQv (D : va_G) (y : Nat → ClassId) (w1 ws : va_W) (sz : Nat) : Array Value → State → Outcome → State → Prop := va_Qv (fun (_ : Unit) => True) (fun _ t => wrB D y w1 ws sz t) (va_A ws sz)
theorem pick_map {W wc : va_W} {is : List Nat} (h : is.map (fun i => W[i]?) = wc.map some) : is.filterMap (fun i => W[i]?) = wc := by
  have h2 : ∀ (l : List Nat) (w : va_W), l.map (fun i => W[i]?) = w.map some → l.filterMap (fun i => W[i]?) = w := by
    intro l
    induction l with
    | nil => intro w h; cases w with
      | nil => rfl
      | cons a b => cases h
    | cons a l ih => intro w h; cases w with
      | nil => cases h
      | cons b w =>
        injection h with h1 h2
        rw [List.filterMap_cons, show W[a]? = some b from h1]
        simp only
        rw [ih w h2]
  exact h2 is wc h
section MYCALLS
variable {p : Program} {l : Launch} {e : Env} {R : Room} {s : State} {m : MethodId} {args : Array Value} {below : List Frame} {meth : Method} {c : Code} {H : Heap} {locs : List Loc} {cells slots : Nat} {Q : State → Prop}
variable {D : va_G} {yy : Nat → ClassId} {V wc w1 wr : va_W} {y : MethodName} {bytes cc : ByteArray} {maxL nL n index N ci b mc ms : Nat} {ret : Option FieldType} {wsy : List Cond} {rm : Room} {Ts : List Cond} {own C : String} {T : u_T} {fs As rest st0 : List Value} {r : Int32} {pc : Nat} {ls : Array Slot} {A : Nat → Prop}
theorem cr_V (S : CallFix p m c cc nL s args Ts own) (hM : Met l y wsy rm (rdP D yy wc (.ref b :: As)) (QcRead r) 0 0 (fun _ => False)) (cw : CallW R s args own C index y bytes maxL ret wsy rm 0 0 n) (hK : va_K D vwCl (tyl yy) s) (hP : va_P D vwCl V H) (is : List Nat) (hs : is.filterMap (fun i => V[i]?) = wc) (he : wc[0]? = some (b, .inr (ci, fs))) (hc : vwCl[ci]? = some (C, T, N))
    (hn : As.length = n) (hsize : ls.size = nL) (hst : st0 = As.reverse ++ .ref b :: rest) (hW : (rest.map fun v => v.category).sum ≤ 8) (hdg : decode cc pc = .ok (.invokevirtual index, 3)) (hf : cells + 0 ≤ R.cells ∧ slots + 0 ≤ R.slots)
    (kk : W p l e R s m args below meth c H locs cells slots Q (F0 m (pc + 3) ls (.int r :: rest))) : W p l e R s m args below meth c H locs cells slots Q (F0 m pc ls st0) :=
  W.callR (va_Run.run (va_runV S hM cw ⟨rdP_blind, va_recv hK (hP.sub is hs) hc he, fun U hU hW => ⟨rfl, by rw [hU]; exact hP.sub is hs, va_K.moved hW.alike hK⟩⟩ rfl hn hsize hst (lv_room (ls := ls) (rest := st0) (pc := pc) (m := m) hW) hdg hf)) kk
theorem cr_S (S : CallFix p m c cc nL s args Ts own) (hM : Met l y wsy rm (rdP D yy wc As) (QcRead r) 0 0 (fun _ => False)) (cw : CallB R s args own index y bytes maxL ret wsy rm 0 0 n ∧ (Cond.static y).before args s = true) (hK : va_K D vwCl (tyl yy) s) (hP : va_P D vwCl V H) (is : List Nat) (hs : is.filterMap (fun i => V[i]?) = wc)
    (hn : As.length = n) (hsize : ls.size = nL) (hst : st0 = As.reverse ++ rest) (hW : (rest.map fun v => v.category).sum ≤ 8) (hdg : decode cc pc = .ok (.invokestatic index, 3)) (hf : cells + 0 ≤ R.cells ∧ slots + 0 ≤ R.slots)
    (kk : W p l e R s m args below meth c H locs cells slots Q (F0 m (pc + 3) ls (.int r :: rest))) : W p l e R s m args below meth c H locs cells slots Q (F0 m pc ls st0) :=
  W.callR (va_Run.run (va_runS S hM cw ⟨rdP_blind, fun U hU hW => ⟨rfl, by rw [hU]; exact hP.sub is hs, va_K.moved hW.alike hK⟩⟩ rfl hn hsize hst (lv_room (ls := ls) (rest := st0) (pc := pc) (m := m) hW) hdg hf)) kk
theorem cm_pre (hK : va_K D vwCl (tyl yy) s) (hP : va_P D vwCl V H) (hD : va_D A V) (is : List Nat) (hni : va_nd is = true) (hC : is.map (fun i => V[i]?) = wc.map some) (av : List Value) : FrameBlind (wrP D yy wc H.size av) ∧ ∀ U : State, U.heap = H → s.WarmedH U.vm → wrP D yy wc H.size av av.toArray U :=
  ⟨wrP_blind, fun U hU hW => ⟨rfl, by rw [hU], by rw [hU]; exact hP.sub is (pick_map hC), va_K.moved hW.alike hK, (hD.sub is hni hC).weaken (fun _ _ _ _ => trivial)⟩⟩
theorem cm_Vi (S : CallFix p m c cc nL s args Ts own) (hM : Met l y wsy rm (wrP D yy wc H.size (.ref b :: As)) (wQi D yy r w1 wc H.size) mc ms (va_A wc H.size)) (cw : CallW R s args own C index y bytes maxL ret wsy rm mc ms n) (hK : va_K D vwCl (tyl yy) s) (hP : va_P D vwCl V H) (hD : va_D A V) (hS : va_S A s.heap H locs) (hA : ∀ q, s.heap.size ≤ q → A q)
    (is isR : List Nat) (hni : va_nd is = true) (hC : is.map (fun i => V[i]?) = wc.map some) (hR : isR.map (fun i => V[i]?) = wr.map some) (hnR : va_nd isR = true) (hdis : ∀ i ∈ isR, i ∉ is) (he : wc[0]? = some (b, .inr (ci, fs))) (hc : vwCl[ci]? = some (C, T, N))
    (hn : As.length = n) (hsize : ls.size = nL) (hst : st0 = As.reverse ++ .ref b :: rest) (hW : (rest.map fun v => v.category).sum ≤ 8) (hdg : decode cc pc = .ok (.invokevirtual index, 3)) (hf : cells + mc ≤ R.cells ∧ slots + ms ≤ R.slots)
    (kk : ∀ (H1 : Heap) (locs1 : List Loc), va_P D vwCl (wr ++ w1) H1 → va_D A (wr ++ w1) → va_S A s.heap H1 locs1 → W p l e R s m args below meth c H1 locs1 (cells + mc) (slots + ms) Q (F0 m (pc + 3) ls (.int r :: rest))) : W p l e R s m args below meth c H locs cells slots Q (F0 m pc ls st0) := by
  have hpre := cm_pre hK hP hD is hni hC (.ref b :: As)
  have hF := va_free (wc := wc) hD hS hA is hC
  refine va_calli (va_runV S hM cw ⟨hpre.1, va_recv hK (hP.sub is (pick_map hC)) hc he, hpre.2⟩ rfl hn hsize hst (lv_room (ls := ls) (rest := st0) (pc := pc) (m := m) hW) hdg hf) hS (fun q _ h => hF q h) hF (fun r' u t H1 locs1 ht hvm hw hB hz1 hk1 hS => ?_)
  obtain ⟨hP1, hK1, hD1⟩ := hB
  rw [ht] at hP1
  obtain ⟨hP2, hD2⟩ := va_join hP hD is isR hC hR hnR hdis hk1 hF hP1 hD1
  subst hw
  exact kk H1 locs1 hP2 hD2 hS
theorem cm_Vv (S : CallFix p m c cc nL s args Ts own) (hM : Met l y wsy rm (wrP D yy wc H.size (.ref b :: As)) (wQv D yy w1 wc H.size) mc ms (va_A wc H.size)) (cw : CallW R s args own C index y bytes maxL ret wsy rm mc ms n) (hK : va_K D vwCl (tyl yy) s) (hP : va_P D vwCl V H) (hD : va_D A V) (hS : va_S A s.heap H locs) (hA : ∀ q, s.heap.size ≤ q → A q)
    (is isR : List Nat) (hni : va_nd is = true) (hC : is.map (fun i => V[i]?) = wc.map some) (hR : isR.map (fun i => V[i]?) = wr.map some) (hnR : va_nd isR = true) (hdis : ∀ i ∈ isR, i ∉ is) (he : wc[0]? = some (b, .inr (ci, fs))) (hc : vwCl[ci]? = some (C, T, N))
    (hn : As.length = n) (hsize : ls.size = nL) (hst : st0 = As.reverse ++ .ref b :: rest) (hW : (rest.map fun v => v.category).sum ≤ 8) (hdg : decode cc pc = .ok (.invokevirtual index, 3)) (hf : cells + mc ≤ R.cells ∧ slots + ms ≤ R.slots)
    (kk : ∀ (H1 : Heap) (locs1 : List Loc), va_P D vwCl (wr ++ w1) H1 → va_D A (wr ++ w1) → va_S A s.heap H1 locs1 → W p l e R s m args below meth c H1 locs1 (cells + mc) (slots + ms) Q (F0 m (pc + 3) ls rest)) : W p l e R s m args below meth c H locs cells slots Q (F0 m pc ls st0) := by
  have hpre := cm_pre hK hP hD is hni hC (.ref b :: As)
  have hF := va_free (wc := wc) hD hS hA is hC
  refine va_callv (va_runV S hM cw ⟨hpre.1, va_recv hK (hP.sub is (pick_map hC)) hc he, hpre.2⟩ rfl hn hsize hst (lv_room (ls := ls) (rest := st0) (pc := pc) (m := m) hW) hdg hf) hS (fun q _ h => hF q h) hF (fun u t H1 locs1 ht hvm hw hB hz1 hk1 hS => ?_)
  obtain ⟨hP1, hK1, hD1⟩ := hB
  rw [ht] at hP1
  obtain ⟨hP2, hD2⟩ := va_join hP hD is isR hC hR hnR hdis hk1 hF hP1 hD1
  exact kk H1 locs1 hP2 hD2 hS
end MYCALLS
theorem inj1 {α : Type} {a b : α} (h : some a = some b) : a = b := Option.some.inj h
theorem inj2 {A1 A2 : Type} {a1 b1 : A1} {a2 b2 : A2} (h : some (a1, a2) = some (b1, b2)) : a1 = b1 ∧ a2 = b2 := Prod.mk.inj (Option.some.inj h)
theorem inj3 {A1 A2 A3 : Type} {a1 b1 : A1} {a2 b2 : A2} {a3 b3 : A3} (h : some (a1, a2, a3) = some (b1, b2, b3)) : a1 = b1 ∧ a2 = b2 ∧ a3 = b3 := by cases h; exact ⟨rfl, rfl, rfl⟩
theorem inj4 {A1 A2 A3 A4 : Type} {a1 b1 : A1} {a2 b2 : A2} {a3 b3 : A3} {a4 b4 : A4} (h : some (a1, a2, a3, a4) = some (b1, b2, b3, b4)) : a1 = b1 ∧ a2 = b2 ∧ a3 = b3 ∧ a4 = b4 := by cases h; exact ⟨rfl, rfl, rfl, rfl⟩
theorem inj5 {A1 A2 A3 A4 A5 : Type} {a1 b1 : A1} {a2 b2 : A2} {a3 b3 : A3} {a4 b4 : A4} {a5 b5 : A5} (h : some (a1, a2, a3, a4, a5) = some (b1, b2, b3, b4, b5)) : a1 = b1 ∧ a2 = b2 ∧ a3 = b3 ∧ a4 = b4 ∧ a5 = b5 := by cases h; exact ⟨rfl, rfl, rfl, rfl, rfl⟩
theorem inj6 {A1 A2 A3 A4 A5 A6 : Type} {a1 b1 : A1} {a2 b2 : A2} {a3 b3 : A3} {a4 b4 : A4} {a5 b5 : A5} {a6 b6 : A6} (h : some (a1, a2, a3, a4, a5, a6) = some (b1, b2, b3, b4, b5, b6)) : a1 = b1 ∧ a2 = b2 ∧ a3 = b3 ∧ a4 = b4 ∧ a5 = b5 ∧ a6 = b6 := by cases h; exact ⟨rfl, rfl, rfl, rfl, rfl, rfl⟩
theorem inj7 {A1 A2 A3 A4 A5 A6 A7 : Type} {a1 b1 : A1} {a2 b2 : A2} {a3 b3 : A3} {a4 b4 : A4} {a5 b5 : A5} {a6 b6 : A6} {a7 b7 : A7} (h : some (a1, a2, a3, a4, a5, a6, a7) = some (b1, b2, b3, b4, b5, b6, b7)) : a1 = b1 ∧ a2 = b2 ∧ a3 = b3 ∧ a4 = b4 ∧ a5 = b5 ∧ a6 = b6 ∧ a7 = b7 := by cases h; exact ⟨rfl, rfl, rfl, rfl, rfl, rfl, rfl⟩
theorem inj8 {A1 A2 A3 A4 A5 A6 A7 A8 : Type} {a1 b1 : A1} {a2 b2 : A2} {a3 b3 : A3} {a4 b4 : A4} {a5 b5 : A5} {a6 b6 : A6} {a7 b7 : A7} {a8 b8 : A8} (h : some (a1, a2, a3, a4, a5, a6, a7, a8) = some (b1, b2, b3, b4, b5, b6, b7, b8)) : a1 = b1 ∧ a2 = b2 ∧ a3 = b3 ∧ a4 = b4 ∧ a5 = b5 ∧ a6 = b6 ∧ a7 = b7 ∧ a8 = b8 := by cases h; exact ⟨rfl, rfl, rfl, rfl, rfl, rfl, rfl, rfl⟩
theorem tbl_out {x : Int32} {lo hi : Int} (h : ∀ v : Int, lo ≤ v → v ≤ hi → x.toInt ≠ v) : x.toInt < lo ∨ hi < x.toInt := by
  rcases Int.lt_or_le x.toInt lo with a | a
  · exact Or.inl a
  · rcases Int.lt_or_le hi x.toInt with b | b
    · exact Or.inr b
    · exact absurd rfl (h _ a b)
section MYROWS
variable {p : Program} {l : Launch} {e : Env} {R R1 : Room} {s : State} {m : MethodId} {args : Array Value} {below : List Frame} {meth : Method} {c : Code} {H : Heap} {locs : List Loc} {cells slots : Nat} {Q : State → Prop}
variable {D : va_G} {yy : Nat → ClassId} {V w0 w1 : va_W} {cc : ByteArray} {pc : Nat} {ls : Array Slot} {A : Nat → Prop} {v : Int32} {rest : List Value}
theorem W_q {g : JFrame} (hR : R = R1) (k : ∀ Q0 : State → Prop, Q0 = Q → W p l e R1 s m args below meth c H locs cells slots Q0 g) : W p l e R s m args below meth c H locs cells slots Q g := by subst hR; exact k Q rfl
theorem W_entry {av : List Value} {n : Nat} (hav : args = av.toArray) (hn : (lg_sl av).length ≤ n) (k : ∀ ls : Array Slot, lv_has ls n (lv_args 0 av) → W p l e R s m args below meth c H locs cells slots Q (F0 m 0 ls [])) : W p l e R s m args below meth c H locs cells slots Q (entryFrame m args n) := by
  subst hav
  have h := lv_entry av hn
  rw [lg_entry_eq]
  exact k _ h
theorem s1_name {x : Int32} {v : Value} (k : ∀ z : Int32, z = x → W p l e R s m args below meth c H locs cells slots Q (F0 m pc ls (v :: .int z :: rest))) : W p l e R s m args below meth c H locs cells slots Q (F0 m pc ls (v :: .int x :: rest)) := k x rfl
theorem w_end (hAe : va_A w0 s.heap.size = A) (hK : va_K D vwCl (tyl yy) s) (hP : va_P D vwCl V H) (hD : va_D A V) (is : List Nat) (hn : va_nd is = true) (hC : is.map (fun i => V[i]?) = w1.map some) {t : State} (ht : t.heap = H) (hW : s.WarmedH t.vm) : wrB D yy w1 w0 s.heap.size t :=
  ⟨by rw [ht]; exact hP.sub is (pick_map hC), va_K.moved hW.alike hK, by rw [hAe]; exact hD.sub is hn hC⟩
theorem ret_i (hx : p.tables.exec = Jvm.exec) (hb : c.code = cc) (hr : meth.sig.returnType = some .int) (hlocks : meth.locks = false) (hAe : va_A w0 s.heap.size = A) (hK : va_K D vwCl (tyl yy) s) (hP : va_P D vwCl V H) (hD : va_D A V) (hS : va_S A s.heap H locs) (is : List Nat) (hn : va_nd is = true) (hC : is.map (fun i => V[i]?) = w1.map some)
    (hdg : decode cc pc = .ok (.ireturn, 1)) : W p l e R s m args below meth c H locs cells slots (MQ below (wQi D yy v w1 w0 s.heap.size) args s cells slots (va_A w0 s.heap.size)) (F0 m pc ls [.int v]) :=
  W.iret hx hb hr (fun t ht hW => ⟨⟨v, (), rfl, rfl, w_end hAe hK hP hD is hn hC ht hW⟩, by rw [hAe]; exact hS.F ht⟩) (by rw [hAe]; exact hS.2.2) hdg hlocks
theorem ret_z {ty : FieldType} (hx : p.tables.exec = Jvm.exec) (hb : c.code = cc) (hr : meth.sig.returnType = some ty) (hnn : narrow ty (.int v) = .int v) (hlocks : meth.locks = false) (hAe : va_A w0 s.heap.size = A) (hK : va_K D vwCl (tyl yy) s) (hP : va_P D vwCl V H) (hD : va_D A V) (hS : va_S A s.heap H locs) (is : List Nat) (hn : va_nd is = true) (hC : is.map (fun i => V[i]?) = w1.map some)
    (hdg : decode cc pc = .ok (.ireturn, 1)) : W p l e R s m args below meth c H locs cells slots (MQ below (wQi D yy v w1 w0 s.heap.size) args s cells slots (va_A w0 s.heap.size)) (F0 m pc ls [.int v]) :=
  W.zret hx hb hr hnn (fun t ht hW => ⟨⟨v, (), rfl, rfl, w_end hAe hK hP hD is hn hC ht hW⟩, by rw [hAe]; exact hS.F ht⟩) (by rw [hAe]; exact hS.2.2) hdg hlocks
theorem ret_v (hx : p.tables.exec = Jvm.exec) (hb : c.code = cc) (hr : meth.sig.returnType = none) (hlocks : meth.locks = false) (hAe : va_A w0 s.heap.size = A) (hK : va_K D vwCl (tyl yy) s) (hP : va_P D vwCl V H) (hD : va_D A V) (hS : va_S A s.heap H locs) (is : List Nat) (hn : va_nd is = true) (hC : is.map (fun i => V[i]?) = w1.map some)
    (hdg : decode cc pc = .ok (.return_, 1)) : W p l e R s m args below meth c H locs cells slots (MQ below (wQv D yy w1 w0 s.heap.size) args s cells slots (va_A w0 s.heap.size)) (F0 m pc ls []) :=
  W.vret hx hb hr (fun t ht hW => ⟨⟨(), rfl, trivial, w_end hAe hK hP hD is hn hC ht hW⟩, by rw [hAe]; exact hS.F ht⟩) (by rw [hAe]; exact hS.2.2) hdg hlocks
end MYROWS
