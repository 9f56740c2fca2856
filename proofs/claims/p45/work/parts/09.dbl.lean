/-! doubles and floats that are numbers -/
theorem okD_n {z : UInt64} (h : okD z = true) : vf_n64 z := (decide_eq_true_iff (p := z &&& 0x7fffffffffffffff ≤ 0x7ff0000000000000)).mp h
theorem okF_n {z : UInt32} (h : okF z = true) : vf_n32 z := (decide_eq_true_iff (p := z &&& 0x7fffffff ≤ 0x7f800000)).mp h
def wQd (D : va_G) (y : Nat → ClassId) (r : UInt64) (w1 ws : va_W) (sz : Nat) : Array Value → State → Outcome → State → Prop := va_Qd (fun r' (_ : Unit) => r' = r) (fun _ t => wrB D y w1 ws sz t) (va_A ws sz)
def wQf (D : va_G) (y : Nat → ClassId) (r : UInt32) (w1 ws : va_W) (sz : Nat) : Array Value → State → Outcome → State → Prop := va_Qf (fun r' (_ : Unit) => r' = r) (fun _ t => wrB D y w1 ws sz t) (va_A ws sz)
section MYDBL
variable {p : Program} {l : Launch} {e : Env} {R : Room} {s : State} {m : MethodId} {args : Array Value} {below : List Frame} {meth : Method} {c : Code} {H : Heap} {locs : List Loc} {cells slots : Nat} {Q : State → Prop}
variable {D : va_G} {yy : Nat → ClassId} {V w0 w1 : va_W} {cc : ByteArray} {pc : Nat} {ls : Array Slot} {A : Nat → Prop} {rest : List Value}
theorem ret_d {v : UInt64} (hx : p.tables.exec = Jvm.exec) (hb : c.code = cc) (hr : meth.sig.returnType = some .double) (hlocks : meth.locks = false) (hAe : va_A w0 s.heap.size = A) (hK : va_K D vwCl (tyl yy) s) (hP : va_P D vwCl V H) (hD : va_D A V) (hS : va_S A s.heap H locs) (is : List Nat) (hn : va_nd is = true) (hC : is.map (fun i => V[i]?) = w1.map some)
    (hdg : decode cc pc = .ok (.dreturn, 1)) : W p l e R s m args below meth c H locs cells slots (MQ below (wQd D yy v w1 w0 s.heap.size) args s cells slots (va_A w0 s.heap.size)) (F0 m pc ls [.double v]) :=
  W.dret hx hb hr (fun t ht hW => ⟨⟨v, (), rfl, rfl, w_end hAe hK hP hD is hn hC ht hW⟩, by rw [hAe]; exact hS.F ht⟩) (by rw [hAe]; exact hS.2.2) hdg hlocks
theorem ret_f {v : UInt32} (hx : p.tables.exec = Jvm.exec) (hb : c.code = cc) (hr : meth.sig.returnType = some .float) (hlocks : meth.locks = false) (hAe : va_A w0 s.heap.size = A) (hK : va_K D vwCl (tyl yy) s) (hP : va_P D vwCl V H) (hD : va_D A V) (hS : va_S A s.heap H locs) (is : List Nat) (hn : va_nd is = true) (hC : is.map (fun i => V[i]?) = w1.map some)
    (hdg : decode cc pc = .ok (.freturn, 1)) : W p l e R s m args below meth c H locs cells slots (MQ below (wQf D yy v w1 w0 s.heap.size) args s cells slots (va_A w0 s.heap.size)) (F0 m pc ls [.float v]) :=
  W.fret hx hb hr (fun t ht hW => ⟨⟨v, (), rfl, rfl, w_end hAe hK hP hD is hn hC ht hW⟩, by rw [hAe]; exact hS.F ht⟩) (by rw [hAe]; exact hS.2.2) hdg hlocks
end MYDBL
