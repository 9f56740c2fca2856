/-! a contract over a larger world: what it doesn't touch stays -/
section MYFRAME
variable {l : Launch} {y : MethodName} {ws : List Cond} {rm : Room} {D : va_G} {yy : Nat → ClassId} {wc w1 fr V0 V1 : va_W} {sz mc ms : Nat} {av : List Value} {r : Int32}
theorem frame_pre {a : Array Value} {s : State} (is : List Nat) (hni : va_nd is = true) (hC : is.map (fun i => V0[i]?) = wc.map some) (h : wrP D yy V0 sz av a s) : wrP D yy wc sz av a s :=
  ⟨h.1, h.2.1, h.2.2.1.sub is (pick_map hC), h.2.2.2.1, h.2.2.2.2.sub is hni hC⟩
theorem frame_post {a : Array Value} {s t : State} (is isR js : List Nat) (hni : va_nd is = true) (hnR : va_nd isR = true) (hC : is.map (fun i => V0[i]?) = wc.map some) (hR : isR.map (fun i => V0[i]?) = fr.map some) (hdis : ∀ i ∈ isR, i ∉ is) (hnj : va_nd js = true) (hJ : js.map (fun i => (fr ++ w1)[i]?) = V1.map some)
    (h : wrP D yy V0 sz av a s) (hB : wrB D yy w1 wc sz t) (hF : va_F (va_A wc sz) s t) : wrB D yy V1 V0 sz t ∧ va_F (va_A V0 sz) s t ∧ ∀ q, va_A wc sz q → va_A V0 sz q := by
  obtain ⟨-, hz, hP, hK, hD⟩ := h
  subst hz
  have hD0 := hD.self (sz := s.heap.size)
  have hfree := va_free (wc := wc) hD0 (va_S.rf (H0 := s.heap)) (fun q h => Or.inr h) is hC
  obtain ⟨hP2, hD2⟩ := va_join hP hD0 is isR hC hR hnR hdis hF.2 hfree hB.1 hB.2.2
  exact ⟨⟨hP2.sub js (pick_map hJ), hB.2.1, hD2.sub js hnj hJ⟩, ⟨hF.1, fun q h1 h2 => hF.2 q h1 (fun z => h2 (hfree q z))⟩, hfree⟩
theorem Met.frameV (h : Met l y ws rm (wrP D yy wc sz av) (wQv D yy w1 wc sz) mc ms (va_A wc sz)) (is isR js : List Nat) (hni : va_nd is = true) (hnR : va_nd isR = true) (hC : is.map (fun i => V0[i]?) = wc.map some) (hR : isR.map (fun i => V0[i]?) = fr.map some) (hdis : ∀ i ∈ isR, i ∉ is) (hnj : va_nd js = true) (hJ : js.map (fun i => (fr ++ w1)[i]?) = V1.map some) :
    Met l y ws rm (wrP D yy V0 sz av) (wQv D yy V1 V0 sz) mc ms (va_A V0 sz) := by
  intro p e h1 h2 h3 s m args below h4 h5 hP h6
  obtain ⟨n, o, g1, g2, g3, ⟨⟨u, q1, q2, q3⟩, q4⟩, L, q5, q6⟩ := h p e h1 h2 h3 s m args below h4 h5 (frame_pre is hni hC hP) h6
  obtain ⟨b1, b2, b3⟩ := frame_post is isR js hni hnR hC hR hdis hnj hJ hP q3 q4
  exact ⟨n, o, g1, g2, g3, ⟨⟨u, q1, q2, b1⟩, b2⟩, L, q5, fun q hq => b3 _ (q6 q hq)⟩
theorem Met.frameI (h : Met l y ws rm (wrP D yy wc sz av) (wQi D yy r w1 wc sz) mc ms (va_A wc sz)) (is isR js : List Nat) (hni : va_nd is = true) (hnR : va_nd isR = true) (hC : is.map (fun i => V0[i]?) = wc.map some) (hR : isR.map (fun i => V0[i]?) = fr.map some) (hdis : ∀ i ∈ isR, i ∉ is) (hnj : va_nd js = true) (hJ : js.map (fun i => (fr ++ w1)[i]?) = V1.map some) :
    Met l y ws rm (wrP D yy V0 sz av) (wQi D yy r V1 V0 sz) mc ms (va_A V0 sz) := by
  intro p e h1 h2 h3 s m args below h4 h5 hP h6
  obtain ⟨n, o, g1, g2, g3, ⟨⟨r', u, q1, q2, q3⟩, q4⟩, L, q5, q6⟩ := h p e h1 h2 h3 s m args below h4 h5 (frame_pre is hni hC hP) h6
  obtain ⟨b1, b2, b3⟩ := frame_post is isR js hni hnR hC hR hdis hnj hJ hP q3 q4
  exact ⟨n, o, g1, g2, g3, ⟨⟨r', u, q1, q2, b1⟩, b2⟩, L, q5, fun q hq => b3 _ (q6 q hq)⟩
end MYFRAME
