/-! the law's methods: what holds all the way, and what is asked at a label -/
def mC (p : Program) (l : Launch) (c : Code) (mi : MethodId) (s : State) (args : Array Value) (D : va_G) (y : Nat → ClassId) (A : Nat → Prop) (code : ByteArray) (ml : Nat) (ws : List Cond) : Prop := p.tables.exec = Jvm.exec ∧ c.code = code ∧ c.maxLocals = ml ∧ s.vm.findClass RL = some mi.cls ∧ (∀ w ∈ ws, w.before args s = true) ∧ va_K D vwCl (tyl y) s ∧ (∀ z, s.heap.size ≤ z → A z) ∧ thrZ A s s.heap ∧ ncP s ∧ jdZ A s s.heap ∧ l.stackTraces = false
def mW (p : Program) (l : Launch) (e : Env) (R : Room) (s : State) (mi : MethodId) (args : Array Value) (below : List Frame) (meth : Method) (c : Code) (D : va_G) (y : Nat → ClassId) (A : Nat → Prop) (at_ : Nat) (q : Lad) (us : List Lad) (sv : Option Lad) (rs dt ix lf : Int32) (M : Nat) (tx : Nat → Int32) (PT : Nat → (Nat → Nat) → Prop) (E : va_W) (Q : State → Prop) (n pc : Nat) (lv : List (Nat × Value)) (CB SB : Nat) : Prop := ∀ C S : Nat, C ≤ CB → S ≤ SB → ∀ (V : va_W) (NN : Nat) (TT : Nat → Nat), PT NN TT → Ob y at_ q us sv rs dt ix lf M tx NN TT V → ∀ (H : Heap) (locs : List Loc), va_P D vwCl (V ++ E) H → va_D A (V ++ E) → va_S A s.heap H locs → ∀ ls : Array Slot, lv_has ls n lv → W p l e R s mi args below meth c H locs C S Q (F0 mi pc ls [])
abbrev anyT : Nat → (Nat → Nat) → Prop := fun _ _ => True
def lpL (f : Nat → Int64 → Int64) : Nat → Int64 → Int64
  | 0, x => x
  | j + 1, x => f j (lpL f j x)
theorem mW_mono {p : Program} {l : Launch} {e : Env} {R : Room} {s : State} {mi : MethodId} {args : Array Value} {below : List Frame} {meth : Method} {c : Code} {D : va_G} {y : Nat → ClassId} {A : Nat → Prop} {at_ : Nat} {q : Lad} {us : List Lad} {sv : Option Lad} {rs dt ix lf : Int32} {M : Nat} {tx : Nat → Int32} {PT : Nat → (Nat → Nat) → Prop} {E : va_W} {Q : State → Prop} {n pc : Nat} {lv : List (Nat × Value)} {CB SB CB2 SB2 : Nat} (h : mW p l e R s mi args below meth c D y A at_ q us sv rs dt ix lf M tx PT E Q n pc lv CB SB) (h1 : CB2 ≤ CB) (h2 : SB2 ≤ SB) : mW p l e R s mi args below meth c D y A at_ q us sv rs dt ix lf M tx PT E Q n pc lv CB2 SB2 := fun C S hC hS => h C S (Nat.le_trans hC h1) (Nat.le_trans hS h2)
theorem Ob_eq {y : Nat → ClassId} {at_ : Nat} {q : Lad} {us : List Lad} {sv : Option Lad} {rs dt ix lf : Int32} {M : Nat} {tx : Nat → Int32} {NN : Nat} {TT : Nat → Nat} {V V' : va_W} (h : V' = V) (hO : Ob y at_ q us sv rs dt ix lf M tx NN TT V) : Ob y at_ q us sv rs dt ix lf M tx NN TT V' := by
  rw [h]; exact hO
theorem Ob_rd {y : Nat → ClassId} {at_ : Nat} {q : Lad} {us : List Lad} {sv : Option Lad} {rs dt ix lf : Int32} {M : Nat} {tx : Nat → Int32} {NN : Nat} {TT : Nat → Nat} {V : va_W} {x : Int32 × Int32} (e : x = (rs, dt)) (hO : Ob y at_ q us sv x.1 x.2 ix lf M tx NN TT V) : Ob y at_ q us sv rs dt ix lf M tx NN TT V := by
  rw [e] at hO; exact hO
section WX12
variable {p : Program} {l : Launch} {e : Env} {R : Room} {s : State} {m : MethodId} {args : Array Value} {below : List Frame} {meth : Method} {c : Code} {H : Heap} {locs : List Loc} {cells slots : Nat}
variable {y : MethodName} {bytes cc : ByteArray} {maxL nL mc ms n index : Nat} {ret : Option FieldType} {ws : List Cond} {rm : Room} {Pc : Array Value → State → Prop} {Qc : Array Value → State → Outcome → State → Prop} {XC : String → State → State → Prop} {free : Addr → Prop} {Ts : List Cond} {own : String} {As rest : List Value} {g : JFrame}
/-- a call from a deeper stack -/
theorem wx_runSX {hh : List (Nat × Nat × Nat × Nat)} (S : CallFix p m c cc nL s args Ts own) (hM : vx_Met l y ws rm Pc Qc XC mc ms free) (cw : vx_CSW R s args own index y bytes maxL ret hh ws rm mc ms n) (hp : PreS s H Pc As)
    (hg : g.method = m) (hn : As.length = n) (hsize : g.locals.size = nL) (hstack : g.stack = As.reverse ++ rest) (hW : 2 * g.monitorRoom + (rest.map fun v => v.category).sum ≤ 12) (h12 : 12 + (maxL + 11) + rm.locals ≤ R.locals) (hdg : decode cc g.pc = .ok (.invokestatic index, 3)) (hf : cells + mc ≤ R.cells ∧ slots + ms ≤ R.slots) :
    vx_Run p l e R s m args below meth c H locs cells slots mc ms g rest (Qc As.toArray) XC free := by
  obtain ⟨⟨hrc, hrs, hfr, hlo, hws, hcw⟩, hcode, hini, hy, hlen, hl, hstt⟩ := cw
  have hK : vx_Back l R p e below s args y 3 12 (PreOf R mc ms Pc) (PostOf Qc mc ms free) (vx_Post XC mc ms free) := vx_backW (hh := hh) (bytes := bytes) (maxL := maxL) (ret := ret) hM hp.1 hrc hrs hfr h12 hws hcw (fun a' U hW => word_at hW (Or.inl (by first | rfl | simp [Cond.onTables, Cond.keeps, Cond.steady])) hini)
  obtain ⟨hx, hb, hml, ho, -⟩ := S
  intro T hT X
  rcases vx_callSX X hx (hh := hh) (bytes := bytes) (maxL := maxL) (ret := ret) ho hl hstt hini hcode hy hK hg (hsize.trans hml.symm) (argsL := As) (rest := rest) (fun sig h => hn.trans (hlen sig h)) hstack hW (by rw [hb]; exact hdg)
    (fun vm₁ hW₁ => ⟨hf.1, hf.2, hp.2 (T.setVm vm₁) hT hW₁⟩) with ⟨v, vm₁, ⟨U', l2, c2, s2⟩, hW₁, X', ⟨g', mk, t, L, e1, e2, hq, h1, hL, h2, h3⟩, st⟩ | ⟨q, vm₁, ⟨U', l2, c2, s2⟩, hW₁, X', ⟨g', mk, t, L, E, ce, e1, e2, hq, hce, hcv, hcl, h1, hL, h2, h3⟩, st⟩
  · dsimp only [Pt.U, Pt.locs, Pt.cells, Pt.slots] at X' e1 e2 h1 h2 h3 st
    subst h1; subst h2; subst h3
    exact Or.inl ⟨v, (T.setVm vm₁).calling g' mk As.toArray, t, U', L, hT, X', hL, e1, e2, hq, st⟩
  · dsimp only [Pt.U, Pt.locs, Pt.cells, Pt.slots] at X' e1 e2 h1 h2 h3 st hcl
    subst h1; subst h2; subst h3
    exact Or.inr ⟨q, (T.setVm vm₁).calling g' mk As.toArray, t, U', L, E, ce, hT, X', hL, e1, e2, hq, hce, hcv, vx_cls hW₁ hcl, st⟩
end WX12
section WX13
variable {p : Program} {l : Launch} {e : Env} {R : Room} {s : State} {m : MethodId} {args : Array Value} {below : List Frame} {meth : Method} {c : Code} {H H1 : Heap} {locs : List Loc} {cells slots : Nat} {Q : State → Prop}
variable {D : va_G} {yy : Nat → ClassId} {V E W1 w0 : va_W} {y : MethodName} {bytes cc : ByteArray} {maxL nL n index mc ms b : Nat} {ret : Option FieldType} {wsy : List Cond} {rm : Room} {Ts : List Cond} {own : String} {As rest st0 fs : List Value} {pc : Nat} {ls : Array Slot} {A : Nat → Prop} {hh : List (Nat × Nat × Nat × Nat)} {post : Int32 → va_W → Prop} {px : va_W → Prop}
theorem ow_S12 (S : CallFix p m c cc nL s args Ts own) (hM : vx_Met l y wsy rm (zlP D yy V H.size As) (oQi D yy 0 post V H.size) (oX D yy 0 px V H.size) mc ms (va_A V H.size)) (cw : vx_CSW R s args own index y bytes maxL ret hh wsy rm mc ms n) (hK : va_K D vwCl (tyl yy) s) (hP : va_P D vwCl (V ++ E) H) (hD : va_D A (V ++ E)) (hS : va_S A s.heap H locs) (hA : ∀ q, s.heap.size ≤ q → A q) (hZ : thrZ A s s.heap) (hN : ncP s) (hJ : jdZ A s s.heap)
    (hn : As.length = n) (hsize : ls.size = nL) (hst : st0 = As.reverse ++ rest) (hW : (rest.map fun v => v.category).sum ≤ 12) (h12 : 12 + (maxL + 11) + rm.locals ≤ R.locals) (hdg : decode cc pc = .ok (.invokestatic index, 3)) (hf : cells + mc ≤ R.cells ∧ slots + ms ≤ R.slots)
    (kk : ∀ (r : Int32) (V1 : va_W) (H1 : Heap) (locs1 : List Loc), post r V1 → va_P D vwCl (V1 ++ E) H1 → va_D A (V1 ++ E) → va_S A s.heap H1 locs1 → W p l e R s m args below meth c H1 locs1 (cells + mc) (slots + ms) Q (F0 m (pc + 3) ls (.int r :: rest))) : W p l e R s m args below meth c H locs cells slots Q (F0 m pc ls st0) := by
  have hpre := oc_pre hK hP hD hS hA hZ hN hJ As
  have hF := oc_F hD hS hA
  refine vx_calli (wx_runSX S hM cw ⟨hpre.1, hpre.2⟩ rfl hn hsize hst (by show 2 * 0 + _ ≤ 12; omega) h12 hdg hf) hS (fun q _ h => hF q h) hF (fun q _ h => hF q h) (fun E ce q9 u t H1 locs1 ht hvm hk hB hz1 hk1 hS h1 h2 h3 => ?_) (fun v u t H1 locs1 ht hvm hk hB hz1 hk1 hS => ?_)
  · exact absurd rfl hk.1
  · obtain ⟨-, hp⟩ := hk
    obtain ⟨hP1, hK1, hD1⟩ := hB
    rw [ht] at hP1
    obtain ⟨hP2, hD2⟩ := oc_join hP hD hk1 hF hP1 hD1
    exact kk v u H1 locs1 hp hP2 hD2 hS
end WX13
