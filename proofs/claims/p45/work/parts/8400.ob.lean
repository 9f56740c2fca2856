/-! the archive as one thing, and what is known of it: ghosts -/
def wO (y : Nat → ClassId) (at_ : Nat) (u : Nat → Nat) (t_saved : Int32) (t_latestFault : Int32) (t_ladder_size : Int32) (t_ladder_hidden : Int32) (t_ladder_keys : Nat → Int32) (t_ladder_weights : Nat → Int32) (t_ladder_towers : Nat → Int32) (t_ladder_coin_number : Int32) (t_ladder_coin_tossed : Int32) (t_ladder_coin_heads : Int32) (t_search_place : Int32) (t_search_level : Int32) (t_search_gone : Int32) (t_search_fallen : Int32) (t_search_spanned : Int32) (t_clerk_detail : Int32) (t_clerk_keptReason : Int32) (t_clerk_keptDetail : Int32) (t_clerk_keptIndex : Int32) (t_order_sign : Int32) (t_order_number : Int32) (t_order_weight : Int32) (t_order_rungs : Int32) (t_reader_length : Int32) (t_reader_at : Int32) (t_reader_faulty : Int32) (t_reader_text : Nat → Int32) (t_history_newest : Int32) (t_history_amount : Int32) (t_history_rk : Nat → Nat → Int32) (t_history_rw : Nat → Nat → Int32) (t_history_rt : Nat → Nat → Int32) (t_history_rs : Nat → Int32) (t_history_rh : Nat → Int32) (t_history_rn : Nat → Int32) (t_history_ro : Nat → Int32) (t_history_rd : Nat → Int32) (t_before_size : Int32) (t_before_hidden : Int32) (t_before_keys : Nat → Int32) (t_before_weights : Nat → Int32) (t_before_towers : Nat → Int32) (t_before_coin_number : Int32) (t_before_coin_tossed : Int32) (t_before_coin_heads : Int32) (t_snapshot_size : Int32) (t_snapshot_hidden : Int32) (t_snapshot_keys : Nat → Int32) (t_snapshot_weights : Nat → Int32) (t_snapshot_towers : Nat → Int32) (t_snapshot_coin_number : Int32) (t_snapshot_coin_tossed : Int32) (t_snapshot_coin_heads : Int32) (NN : Nat) (v : Nat) (mm : Nat) (ml : Int32) (bb : Nat → Int32) : va_W := ((at_, .inr (11, [.ref (u 0), .ref (u 5), .ref (u 6), .ref (u 7), .ref (u 8), .ref (u 10), .ref (u 52), .ref (u 57), .int t_saved, .int t_latestFault, .ref (u 62)])) :: ((u 0), .inr (7, [.ref (u 1), .ref (u 2), .ref (u 3), .ref (u 4), .int t_ladder_size, .int t_ladder_hidden])) :: ((u 1), .inl (y 0, 24, .inl t_ladder_keys)) :: ((u 2), .inl (y 0, 24, .inl t_ladder_weights)) :: ((u 3), .inl (y 0, 24, .inl t_ladder_towers)) :: ((u 4), .inr (5, [.int t_ladder_coin_number, .int t_ladder_coin_tossed, .int t_ladder_coin_heads])) :: ((u 5), .inr (10, [.ref (u 0), .int t_search_place, .int t_search_level, .int t_search_gone, .int t_search_fallen, .int t_search_spanned])) :: ((u 6), .inr (4, [.ref (u 0), .int t_clerk_detail, .int t_clerk_keptReason, .int t_clerk_keptDetail, .int t_clerk_keptIndex])) :: ((u 7), .inr (8, [.int t_order_sign, .int t_order_number, .int t_order_weight, .int t_order_rungs])) :: ((u 8), .inr (9, [.ref (u 9), .int t_reader_length, .int t_reader_at, .int t_reader_faulty])) :: ((u 9), .inl (y 1, 60, .inl t_reader_text)) :: ((u 10), .inr (6, [.ref (u 11), .int t_history_newest, .int t_history_amount])) :: ((u 11), .inl (y 5, 8, .inr (.inr (.inr (.inr (fun i => some (u (12 + 5 * i)))))))) :: ((u 12), .inr (7, [.ref (u 13), .ref (u 14), .ref (u 15), .ref (u 16), .int (t_history_rs 0), .int (t_history_rh 0)])) :: ((u 13), .inl (y 0, 24, .inl (t_history_rk 0))) :: ((u 14), .inl (y 0, 24, .inl (t_history_rw 0))) :: ((u 15), .inl (y 0, 24, .inl (t_history_rt 0))) :: ((u 16), .inr (5, [.int (t_history_rn 0), .int (t_history_ro 0), .int (t_history_rd 0)])) :: ((u 17), .inr (7, [.ref (u 18), .ref (u 19), .ref (u 20), .ref (u 21), .int (t_history_rs 1), .int (t_history_rh 1)])) :: ((u 18), .inl (y 0, 24, .inl (t_history_rk 1))) :: ((u 19), .inl (y 0, 24, .inl (t_history_rw 1))) :: ((u 20), .inl (y 0, 24, .inl (t_history_rt 1))) :: ((u 21), .inr (5, [.int (t_history_rn 1), .int (t_history_ro 1), .int (t_history_rd 1)])) :: ((u 22), .inr (7, [.ref (u 23), .ref (u 24), .ref (u 25), .ref (u 26), .int (t_history_rs 2), .int (t_history_rh 2)])) :: ((u 23), .inl (y 0, 24, .inl (t_history_rk 2))) :: ((u 24), .inl (y 0, 24, .inl (t_history_rw 2))) :: ((u 25), .inl (y 0, 24, .inl (t_history_rt 2))) :: ((u 26), .inr (5, [.int (t_history_rn 2), .int (t_history_ro 2), .int (t_history_rd 2)])) :: ((u 27), .inr (7, [.ref (u 28), .ref (u 29), .ref (u 30), .ref (u 31), .int (t_history_rs 3), .int (t_history_rh 3)])) :: ((u 28), .inl (y 0, 24, .inl (t_history_rk 3))) :: ((u 29), .inl (y 0, 24, .inl (t_history_rw 3))) :: ((u 30), .inl (y 0, 24, .inl (t_history_rt 3))) :: ((u 31), .inr (5, [.int (t_history_rn 3), .int (t_history_ro 3), .int (t_history_rd 3)])) :: ((u 32), .inr (7, [.ref (u 33), .ref (u 34), .ref (u 35), .ref (u 36), .int (t_history_rs 4), .int (t_history_rh 4)])) :: ((u 33), .inl (y 0, 24, .inl (t_history_rk 4))) :: ((u 34), .inl (y 0, 24, .inl (t_history_rw 4))) :: ((u 35), .inl (y 0, 24, .inl (t_history_rt 4))) :: ((u 36), .inr (5, [.int (t_history_rn 4), .int (t_history_ro 4), .int (t_history_rd 4)])) :: ((u 37), .inr (7, [.ref (u 38), .ref (u 39), .ref (u 40), .ref (u 41), .int (t_history_rs 5), .int (t_history_rh 5)])) :: ((u 38), .inl (y 0, 24, .inl (t_history_rk 5))) :: ((u 39), .inl (y 0, 24, .inl (t_history_rw 5))) :: ((u 40), .inl (y 0, 24, .inl (t_history_rt 5))) :: ((u 41), .inr (5, [.int (t_history_rn 5), .int (t_history_ro 5), .int (t_history_rd 5)])) :: ((u 42), .inr (7, [.ref (u 43), .ref (u 44), .ref (u 45), .ref (u 46), .int (t_history_rs 6), .int (t_history_rh 6)])) :: ((u 43), .inl (y 0, 24, .inl (t_history_rk 6))) :: ((u 44), .inl (y 0, 24, .inl (t_history_rw 6))) :: ((u 45), .inl (y 0, 24, .inl (t_history_rt 6))) :: ((u 46), .inr (5, [.int (t_history_rn 6), .int (t_history_ro 6), .int (t_history_rd 6)])) :: ((u 47), .inr (7, [.ref (u 48), .ref (u 49), .ref (u 50), .ref (u 51), .int (t_history_rs 7), .int (t_history_rh 7)])) :: ((u 48), .inl (y 0, 24, .inl (t_history_rk 7))) :: ((u 49), .inl (y 0, 24, .inl (t_history_rw 7))) :: ((u 50), .inl (y 0, 24, .inl (t_history_rt 7))) :: ((u 51), .inr (5, [.int (t_history_rn 7), .int (t_history_ro 7), .int (t_history_rd 7)])) :: ((u 52), .inr (7, [.ref (u 53), .ref (u 54), .ref (u 55), .ref (u 56), .int t_before_size, .int t_before_hidden])) :: ((u 53), .inl (y 0, 24, .inl t_before_keys)) :: ((u 54), .inl (y 0, 24, .inl t_before_weights)) :: ((u 55), .inl (y 0, 24, .inl t_before_towers)) :: ((u 56), .inr (5, [.int t_before_coin_number, .int t_before_coin_tossed, .int t_before_coin_heads])) :: ((u 57), .inr (7, [.ref (u 58), .ref (u 59), .ref (u 60), .ref (u 61), .int t_snapshot_size, .int t_snapshot_hidden])) :: ((u 58), .inl (y 0, 24, .inl t_snapshot_keys)) :: ((u 59), .inl (y 0, 24, .inl t_snapshot_weights)) :: ((u 60), .inl (y 0, 24, .inl t_snapshot_towers)) :: ((u 61), .inr (5, [.int t_snapshot_coin_number, .int t_snapshot_coin_tossed, .int t_snapshot_coin_heads])) :: ((u 62), .inr (1, [.ref v, .int 0, .int ml, .int (nI NN)])) :: (v, .inl (y 2, mm, .inl bb)) :: [])
def RO (t_ladder_size : Int32) (t_ladder_hidden : Int32) (t_ladder_keys : Nat → Int32) (t_ladder_weights : Nat → Int32) (t_ladder_towers : Nat → Int32) (t_ladder_coin_number : Int32) (t_ladder_coin_tossed : Int32) (t_ladder_coin_heads : Int32) (t_history_newest : Int32) (t_history_amount : Int32) (t_history_rk : Nat → Nat → Int32) (t_history_rw : Nat → Nat → Int32) (t_history_rt : Nat → Nat → Int32) (t_history_rs : Nat → Int32) (t_history_rh : Nat → Int32) (t_history_rn : Nat → Int32) (t_history_ro : Nat → Int32) (t_history_rd : Nat → Int32) (t_saved : Int32) (t_snapshot_size : Int32) (t_snapshot_hidden : Int32) (t_snapshot_keys : Nat → Int32) (t_snapshot_weights : Nat → Int32) (t_snapshot_towers : Nat → Int32) (t_snapshot_coin_number : Int32) (t_snapshot_coin_tossed : Int32) (t_snapshot_coin_heads : Int32) (q : Lad) (us : List Lad) (sv : Option Lad) (M : Nat) (tx : Nat → Int32) (NN : Nat) (TT : Nat → Nat) (mm : Nat) (bb : Nat → Int32) : Prop := (∃ a, LL t_ladder_size t_ladder_hidden t_ladder_keys t_ladder_weights t_ladder_towers t_ladder_coin_number t_ladder_coin_tossed t_ladder_coin_heads a) ∧ NRM t_ladder_size t_ladder_hidden t_ladder_keys t_ladder_weights t_ladder_towers t_ladder_coin_number t_ladder_coin_tossed t_ladder_coin_heads = q ∧ GL q ∧ HU t_history_newest t_history_amount t_history_rk t_history_rw t_history_rt t_history_rs t_history_rh t_history_rn t_history_ro t_history_rd us ∧ SU t_saved t_snapshot_size t_snapshot_hidden t_snapshot_keys t_snapshot_weights t_snapshot_towers t_snapshot_coin_number t_snapshot_coin_tossed t_snapshot_coin_heads sv ∧ M ≤ 60 ∧ (∀ j, j < M → okC (tx j) = true) ∧ NN ≤ 99 ∧ NN ≤ mm ∧ mm ≤ 65536 ∧ sb_Lat TT NN bb ∧ sb_Fit bb
def Ob (y : Nat → ClassId) (at_ : Nat) (q : Lad) (us : List Lad) (sv : Option Lad) (rs dt ix lf : Int32) (M : Nat) (tx : Nat → Int32) (NN : Nat) (TT : Nat → Nat) (V : va_W) : Prop := ∃ (u : Nat → Nat) (v : Nat) (mm : Nat) (ml : Int32) (bb : Nat → Int32) (t_saved : Int32) (t_ladder_size : Int32) (t_ladder_hidden : Int32) (t_ladder_keys : Nat → Int32) (t_ladder_weights : Nat → Int32) (t_ladder_towers : Nat → Int32) (t_ladder_coin_number : Int32) (t_ladder_coin_tossed : Int32) (t_ladder_coin_heads : Int32) (t_search_place : Int32) (t_search_level : Int32) (t_search_gone : Int32) (t_search_fallen : Int32) (t_search_spanned : Int32) (t_clerk_detail : Int32) (t_order_sign : Int32) (t_order_number : Int32) (t_order_weight : Int32) (t_order_rungs : Int32) (t_reader_at : Int32) (t_reader_faulty : Int32) (t_history_newest : Int32) (t_history_amount : Int32) (t_history_rk : Nat → Nat → Int32) (t_history_rw : Nat → Nat → Int32) (t_history_rt : Nat → Nat → Int32) (t_history_rs : Nat → Int32) (t_history_rh : Nat → Int32) (t_history_rn : Nat → Int32) (t_history_ro : Nat → Int32) (t_history_rd : Nat → Int32) (t_before_size : Int32) (t_before_hidden : Int32) (t_before_keys : Nat → Int32) (t_before_weights : Nat → Int32) (t_before_towers : Nat → Int32) (t_before_coin_number : Int32) (t_before_coin_tossed : Int32) (t_before_coin_heads : Int32) (t_snapshot_size : Int32) (t_snapshot_hidden : Int32) (t_snapshot_keys : Nat → Int32) (t_snapshot_weights : Nat → Int32) (t_snapshot_towers : Nat → Int32) (t_snapshot_coin_number : Int32) (t_snapshot_coin_tossed : Int32) (t_snapshot_coin_heads : Int32), V = wO y at_ u t_saved lf t_ladder_size t_ladder_hidden t_ladder_keys t_ladder_weights t_ladder_towers t_ladder_coin_number t_ladder_coin_tossed t_ladder_coin_heads t_search_place t_search_level t_search_gone t_search_fallen t_search_spanned t_clerk_detail rs dt ix t_order_sign t_order_number t_order_weight t_order_rungs (nI M) t_reader_at t_reader_faulty tx t_history_newest t_history_amount t_history_rk t_history_rw t_history_rt t_history_rs t_history_rh t_history_rn t_history_ro t_history_rd t_before_size t_before_hidden t_before_keys t_before_weights t_before_towers t_before_coin_number t_before_coin_tossed t_before_coin_heads t_snapshot_size t_snapshot_hidden t_snapshot_keys t_snapshot_weights t_snapshot_towers t_snapshot_coin_number t_snapshot_coin_tossed t_snapshot_coin_heads NN v mm ml bb ∧ RO t_ladder_size t_ladder_hidden t_ladder_keys t_ladder_weights t_ladder_towers t_ladder_coin_number t_ladder_coin_tossed t_ladder_coin_heads t_history_newest t_history_amount t_history_rk t_history_rw t_history_rt t_history_rs t_history_rh t_history_rn t_history_ro t_history_rd t_saved t_snapshot_size t_snapshot_hidden t_snapshot_keys t_snapshot_weights t_snapshot_towers t_snapshot_coin_number t_snapshot_coin_tossed t_snapshot_coin_heads q us sv M tx NN TT mm bb
def oQi (D : va_G) (y : Nat → ClassId) (k : Nat) (post : Int32 → va_W → Prop) (V : va_W) (sz : Nat) : Array Value → State → Outcome → State → Prop := va_Qi (fun r V' => k = 0 ∧ post r V') (fun V' t => wrB D y V' V sz t) (va_A V sz)
def oQd (D : va_G) (y : Nat → ClassId) (k : Nat) (post : UInt64 → va_W → Prop) (V : va_W) (sz : Nat) : Array Value → State → Outcome → State → Prop := va_Qd (fun r V' => k = 0 ∧ post r V') (fun V' t => wrB D y V' V sz t) (va_A V sz)
def oQf (D : va_G) (y : Nat → ClassId) (k : Nat) (post : UInt32 → va_W → Prop) (V : va_W) (sz : Nat) : Array Value → State → Outcome → State → Prop := va_Qf (fun r V' => k = 0 ∧ post r V') (fun V' t => wrB D y V' V sz t) (va_A V sz)
def oQl (D : va_G) (y : Nat → ClassId) (post : Int64 → va_W → Prop) (V : va_W) (sz : Nat) : Array Value → State → Outcome → State → Prop := va_Ql (fun r V' => post r V') (fun V' t => wrB D y V' V sz t) (va_A V sz)
def oX (D : va_G) (y : Nat → ClassId) (k : Nat) (px : va_W → Prop) (V : va_W) (sz : Nat) : String → State → State → Prop := vx_X (fun V' => ¬ k = 0 ∧ px V') (fun E V' t => E = exn k ∧ wrB D y V' V sz t) (va_A V sz)
def LF (V0 wc V1 w1 : va_W) : Prop := ∃ is isR js : List Nat, va_nd is = true ∧ va_nd isR = true ∧ is.map (fun i => V0[i]?) = wc.map some ∧ isR.map (fun i => V0[i]?) = (isR.filterMap fun i => V0[i]?).map some ∧ (∀ i ∈ isR, i ∉ is) ∧ va_nd js = true ∧ js.map (fun i => ((isR.filterMap fun i => V0[i]?) ++ w1)[i]?) = V1.map some
section OLIFT
variable {l : Launch} {y : MethodName} {ws : List Cond} {rm : Room} {D : va_G} {yy : Nat → ClassId} {wc w1 wx V0 V1 Vx : va_W} {sz mc ms k : Nat} {av : List Value} {r : Int32} {px : va_W → Prop}
theorem lf_sub {a : Array Value} {s : State} (is : List Nat) (hni : va_nd is = true) (hC : is.map (fun i => V0[i]?) = wc.map some) (h : zlP D yy V0 sz av a s) : wrP D yy wc sz av a s ∧ wrP D yy V0 sz av a s ∧ thrZ (va_A wc sz) s s.heap ∧ jdZ (va_A wc sz) s s.heap := by
  obtain ⟨h1, h2, h3, h4, h5, h6, h7, h8⟩ := h
  have hf := va_free (wc := wc) (h5.self (sz := sz)) (va_S.rf (H0 := s.heap)) (fun q h => Or.inr (by rw [← h2]; exact h)) is hC
  rw [h2] at hf
  exact ⟨⟨h1, h2, h3.sub is (pick_map hC), h4, h5.sub is hni hC⟩, ⟨h1, h2, h3, h4, h5⟩, h6.narrow hf, h8.narrow hf⟩
theorem lift_i {post : Int32 → va_W → Prop} (h : vx_Met l y ws rm (xrP D yy wc sz av) (xQi D yy k r w1 wc sz) (xX D yy k w1 wc sz) mc ms (va_A wc sz)) (hLF : LF V0 wc V1 w1) (hp : k = 0 → post r V1) (hx : ¬ k = 0 → px V1) :
    vx_Met l y ws rm (zlP D yy V0 sz av) (oQi D yy k post V0 sz) (oX D yy k px V0 sz) mc ms (va_A V0 sz) := by
  intro p e h1 h2 h3 s m args below h4 h5 hP h6
  obtain ⟨is, isR, js, hni, hnR, hC, hR, hdis, hnj, hJ⟩ := hLF
  obtain ⟨i1, i2, i3, -⟩ := lf_sub (wc := wc) is hni hC hP
  obtain ⟨n, o, g1, g2, g3, hq⟩ := h p e h1 h2 h3 s m args below h4 h5 ⟨i1.1, i1.2.1, i1.2.2.1, i1.2.2.2.1, i1.2.2.2.2, i3⟩ h6
  refine ⟨n, o, g1, g2, g3, ?_⟩
  rcases hq with ⟨⟨⟨r', u, q1, ⟨q2, rfl⟩, q3⟩, q4⟩, L, q5, q6⟩ | ⟨q, ho, E, ce, L, ⟨u, hk, ⟨hE, hB⟩, hF⟩, j1, j2, j3, j4, j5, j6⟩
  · obtain ⟨b1, b2, b3⟩ := frame_post is isR js hni hnR hC hR hdis hnj hJ i2 q3 q4
    exact Or.inl ⟨⟨⟨r', V1, q1, ⟨q2, hp q2⟩, b1⟩, b2⟩, L, q5, fun q hq => b3 _ (q6 q hq)⟩
  · obtain ⟨b1, b2, b3⟩ := frame_post is isR js hni hnR hC hR hdis hnj hJ i2 hB hF
    exact Or.inr ⟨q, ho, E, ce, L, ⟨V1, ⟨hk, hx hk⟩, ⟨hE, b1⟩, b2⟩, j1, j2, j3, j4, j5, fun z hz => b3 _ (j6 z hz)⟩
theorem lift_d {r : UInt64} {post : UInt64 → va_W → Prop} (h : vx_Met l y ws rm (xrP D yy wc sz av) (xQd D yy k r w1 wc sz) (xX D yy k w1 wc sz) mc ms (va_A wc sz)) (hLF : LF V0 wc V1 w1) (hp : k = 0 → post r V1) (hx : ¬ k = 0 → px V1) :
    vx_Met l y ws rm (zlP D yy V0 sz av) (oQd D yy k post V0 sz) (oX D yy k px V0 sz) mc ms (va_A V0 sz) := by
  intro p e h1 h2 h3 s m args below h4 h5 hP h6
  obtain ⟨is, isR, js, hni, hnR, hC, hR, hdis, hnj, hJ⟩ := hLF
  obtain ⟨i1, i2, i3, -⟩ := lf_sub (wc := wc) is hni hC hP
  obtain ⟨n, o, g1, g2, g3, hq⟩ := h p e h1 h2 h3 s m args below h4 h5 ⟨i1.1, i1.2.1, i1.2.2.1, i1.2.2.2.1, i1.2.2.2.2, i3⟩ h6
  refine ⟨n, o, g1, g2, g3, ?_⟩
  rcases hq with ⟨⟨⟨r', u, q1, ⟨q2, rfl⟩, q3⟩, q4⟩, L, q5, q6⟩ | ⟨q, ho, E, ce, L, ⟨u, hk, ⟨hE, hB⟩, hF⟩, j1, j2, j3, j4, j5, j6⟩
  · obtain ⟨b1, b2, b3⟩ := frame_post is isR js hni hnR hC hR hdis hnj hJ i2 q3 q4
    exact Or.inl ⟨⟨⟨r', V1, q1, ⟨q2, hp q2⟩, b1⟩, b2⟩, L, q5, fun q hq => b3 _ (q6 q hq)⟩
  · obtain ⟨b1, b2, b3⟩ := frame_post is isR js hni hnR hC hR hdis hnj hJ i2 hB hF
    exact Or.inr ⟨q, ho, E, ce, L, ⟨V1, ⟨hk, hx hk⟩, ⟨hE, b1⟩, b2⟩, j1, j2, j3, j4, j5, fun z hz => b3 _ (j6 z hz)⟩
theorem lift_f {r : UInt32} {post : UInt32 → va_W → Prop} (h : vx_Met l y ws rm (xrP D yy wc sz av) (xQf D yy k r w1 wc sz) (xX D yy k w1 wc sz) mc ms (va_A wc sz)) (hLF : LF V0 wc V1 w1) (hp : k = 0 → post r V1) (hx : ¬ k = 0 → px V1) :
    vx_Met l y ws rm (zlP D yy V0 sz av) (oQf D yy k post V0 sz) (oX D yy k px V0 sz) mc ms (va_A V0 sz) := by
  intro p e h1 h2 h3 s m args below h4 h5 hP h6
  obtain ⟨is, isR, js, hni, hnR, hC, hR, hdis, hnj, hJ⟩ := hLF
  obtain ⟨i1, i2, i3, -⟩ := lf_sub (wc := wc) is hni hC hP
  obtain ⟨n, o, g1, g2, g3, hq⟩ := h p e h1 h2 h3 s m args below h4 h5 ⟨i1.1, i1.2.1, i1.2.2.1, i1.2.2.2.1, i1.2.2.2.2, i3⟩ h6
  refine ⟨n, o, g1, g2, g3, ?_⟩
  rcases hq with ⟨⟨⟨r', u, q1, ⟨q2, rfl⟩, q3⟩, q4⟩, L, q5, q6⟩ | ⟨q, ho, E, ce, L, ⟨u, hk, ⟨hE, hB⟩, hF⟩, j1, j2, j3, j4, j5, j6⟩
  · obtain ⟨b1, b2, b3⟩ := frame_post is isR js hni hnR hC hR hdis hnj hJ i2 q3 q4
    exact Or.inl ⟨⟨⟨r', V1, q1, ⟨q2, hp q2⟩, b1⟩, b2⟩, L, q5, fun q hq => b3 _ (q6 q hq)⟩
  · obtain ⟨b1, b2, b3⟩ := frame_post is isR js hni hnR hC hR hdis hnj hJ i2 hB hF
    exact Or.inr ⟨q, ho, E, ce, L, ⟨V1, ⟨hk, hx hk⟩, ⟨hE, b1⟩, b2⟩, j1, j2, j3, j4, j5, fun z hz => b3 _ (j6 z hz)⟩
/-- line and character: what isn't fixed comes back in u -/
theorem lift_u {St : Type} {pu : St → Prop} {Wu Vu : St → va_W} {post : Int32 → va_W → Prop} (h : vx_Met l y ws rm (zrP D yy wc sz av) (xQui D yy k r pu Wu wc sz) (xX D yy k wx wc sz) mc ms (va_A wc sz)) (hLu : ∀ u, LF V0 wc (Vu u) (Wu u)) (hLx : LF V0 wc Vx wx) (hp : ∀ u, k = 0 → pu u → post r (Vu u)) (hx : ¬ k = 0 → px Vx) :
    vx_Met l y ws rm (zlP D yy V0 sz av) (oQi D yy k post V0 sz) (oX D yy k px V0 sz) mc ms (va_A V0 sz) := by
  intro p e h1 h2 h3 s m args below h4 h5 hP h6
  obtain ⟨is, isR, js, hni, hnR, hC, hR, hdis, hnj, hJx⟩ := hLx
  obtain ⟨i1, i2, i3, i4⟩ := lf_sub (wc := wc) is hni hC hP
  obtain ⟨n, o, g1, g2, g3, hq⟩ := h p e h1 h2 h3 s m args below h4 h5 ⟨i1.1, i1.2.1, i1.2.2.1, i1.2.2.2.1, i1.2.2.2.2, i3, i4⟩ h6
  refine ⟨n, o, g1, g2, g3, ?_⟩
  rcases hq with ⟨⟨⟨r', u, q1, ⟨q2, rfl, qu⟩, q3⟩, q4⟩, L, q5, q6⟩ | ⟨q, ho, E, ce, L, ⟨u, hk, ⟨hE, hB⟩, hF⟩, j1, j2, j3, j4, j5, j6⟩
  · obtain ⟨is2, isR2, js2, hni2, hnR2, hC2, hR2, hdis2, hnj2, hJ2⟩ := hLu u
    obtain ⟨b1, b2, b3⟩ := frame_post is2 isR2 js2 hni2 hnR2 hC2 hR2 hdis2 hnj2 hJ2 i2 q3 q4
    exact Or.inl ⟨⟨⟨r', Vu u, q1, ⟨q2, hp u q2 qu⟩, b1⟩, b2⟩, L, q5, fun q hq => b3 _ (q6 q hq)⟩
  · obtain ⟨b1, b2, b3⟩ := frame_post is isR js hni hnR hC hR hdis hnj hJx i2 hB hF
    exact Or.inr ⟨q, ho, E, ce, L, ⟨Vx, ⟨hk, hx hk⟩, ⟨hE, b1⟩, b2⟩, j1, j2, j3, j4, j5, fun z hz => b3 _ (j6 z hz)⟩
theorem lift_w {post : Int32 → va_W → Prop} (h : Met l y ws rm (wrP D yy wc sz av) (wQi D yy r w1 wc sz) mc ms (va_A wc sz)) (hLF : LF V0 wc V1 w1) (hp : post r V1) :
    vx_Met l y ws rm (zlP D yy V0 sz av) (oQi D yy 0 post V0 sz) (oX D yy 0 px V0 sz) mc ms (va_A V0 sz) := by
  intro p e h1 h2 h3 s m args below h4 h5 hP h6
  obtain ⟨is, isR, js, hni, hnR, hC, hR, hdis, hnj, hJ⟩ := hLF
  obtain ⟨i1, i2, -, -⟩ := lf_sub (wc := wc) is hni hC hP
  obtain ⟨n, o, g1, g2, g3, ⟨⟨r', u, q1, rfl, q3⟩, q4⟩, L, q5, q6⟩ := h p e h1 h2 h3 s m args below h4 h5 i1 h6
  obtain ⟨b1, b2, b3⟩ := frame_post is isR js hni hnR hC hR hdis hnj hJ i2 q3 q4
  exact ⟨n, o, g1, g2, g3, Or.inl ⟨⟨⟨r', V1, q1, ⟨rfl, hp⟩, b1⟩, b2⟩, L, q5, fun q hq => b3 _ (q6 q hq)⟩⟩
theorem lift_r {post : Int32 → va_W → Prop} (h : Met l y ws rm (rdP D yy wc av) (QcRead r) 0 0 (fun _ => False)) (hLF : LF V0 wc V1 w1) (hp : post r V0) :
    vx_Met l y ws rm (zlP D yy V0 sz av) (oQi D yy 0 post V0 sz) (oX D yy 0 px V0 sz) 0 0 (va_A V0 sz) := by
  intro p e h1 h2 h3 s m args below h4 h5 hP h6
  obtain ⟨is, isR, js, hni, hnR, hC, hR, hdis, hnj, hJ⟩ := hLF
  obtain ⟨i1, i2, -, -⟩ := lf_sub (wc := wc) is hni hC hP
  obtain ⟨n, o, g1, g2, g3, ⟨rfl, q2⟩, L, q5, q6⟩ := h p e h1 h2 h3 s m args below h4 h5 ⟨i1.1, i1.2.2.1, i1.2.2.2.1⟩ h6
  obtain ⟨-, e1, e2, e3, e4⟩ := i2
  refine ⟨n, _, g1, g2, g3, Or.inl ⟨⟨⟨r, V0, rfl, ⟨rfl, hp⟩, ?_⟩, ?_⟩, L, q5, fun q hq => (q6 q hq).elim⟩⟩
  · exact ⟨by rw [q2]; exact e2, va_K.moved q5.2.1.alike e3, e4.self⟩
  · exact ⟨by rw [q2]; exact Nat.le_refl _, fun q _ _ => by rw [q2]⟩
end OLIFT
/-! calls over an archive V and the caller's other cells E; ends -/
theorem va_P.l {D : va_G} {cl : List vw_C} {V E : va_W} {H : Heap} (h : va_P D cl (V ++ E) H) : va_P D cl V H := fun k q hq => h k q (by rw [List.getElem?_append_left (List.getElem?_eq_some_iff.mp hq).1]; exact hq)
theorem va_P.r {D : va_G} {cl : List vw_C} {V E : va_W} {H : Heap} (h : va_P D cl (V ++ E) H) : va_P D cl E H := fun k q hq => h (V.length + k) q (by rw [List.getElem?_append_right (Nat.le_add_right _ _), Nat.add_sub_cancel_left]; exact hq)
theorem va_D.l {A : Nat → Prop} {V E : va_W} (h : va_D A (V ++ E)) : va_D A V := ⟨fun i j p q hp hq => h.1 i j p q (by rw [List.getElem?_append_left (List.getElem?_eq_some_iff.mp hp).1]; exact hp) (by rw [List.getElem?_append_left (List.getElem?_eq_some_iff.mp hq).1]; exact hq), fun k q hq => h.2 k q (by rw [List.getElem?_append_left (List.getElem?_eq_some_iff.mp hq).1]; exact hq)⟩
theorem va_D.r {A : Nat → Prop} {V E : va_W} (h : va_D A (V ++ E)) : va_D A E := ⟨fun i j p q hp hq hpq => by
    have := h.1 (V.length + i) (V.length + j) p q (by rw [List.getElem?_append_right (Nat.le_add_right _ _), Nat.add_sub_cancel_left]; exact hp) (by rw [List.getElem?_append_right (Nat.le_add_right _ _), Nat.add_sub_cancel_left]; exact hq) hpq
    omega, fun k q hq => h.2 (V.length + k) q (by rw [List.getElem?_append_right (Nat.le_add_right _ _), Nat.add_sub_cancel_left]; exact hq)⟩
section OCALL
variable {p : Program} {l : Launch} {e : Env} {R : Room} {s : State} {m : MethodId} {args : Array Value} {below : List Frame} {meth : Method} {c : Code} {H H1 : Heap} {locs : List Loc} {cells slots : Nat} {Q : State → Prop}
variable {D : va_G} {yy : Nat → ClassId} {V E W1 w0 : va_W} {y : MethodName} {bytes cc : ByteArray} {maxL nL n index mc ms b : Nat} {ret : Option FieldType} {wsy : List Cond} {rm : Room} {Ts : List Cond} {own : String} {As rest st0 fs : List Value} {pc : Nat} {ls : Array Slot} {A : Nat → Prop} {hh : List (Nat × Nat × Nat × Nat)} {post : Int32 → va_W → Prop} {px : va_W → Prop}
theorem oc_F (hD : va_D A (V ++ E)) (hS : va_S A s.heap H locs) (hA : ∀ q, s.heap.size ≤ q → A q) : ∀ q, va_A V H.size q → A q := by
  intro q h
  rcases h with ⟨k, e, h⟩ | h
  · exact hD.l.2 k (q, e) h
  · exact hA q (Nat.le_trans hS.1 h)
theorem oc_pre (hK : va_K D vwCl (tyl yy) s) (hP : va_P D vwCl (V ++ E) H) (hD : va_D A (V ++ E)) (hS : va_S A s.heap H locs) (hA : ∀ q, s.heap.size ≤ q → A q) (hZ : thrZ A s s.heap) (hN : ncP s) (hJ : jdZ A s s.heap) (av : List Value) : FrameBlind (zlP D yy V H.size av) ∧ ∀ U : State, U.heap = H → s.WarmedH U.vm → zlP D yy V H.size av av.toArray U :=
  ⟨zlP_blind, fun U hU hW => ⟨rfl, by rw [hU], by rw [hU]; exact hP.l, va_K.moved hW.alike hK, hD.l.weaken (fun _ _ _ _ => trivial), by rw [hU]; exact ((hZ.kept hS.2.1).narrow (oc_F hD hS hA)).moved hW.alike, hN.moved hW.alike, by rw [hU]; exact ((hJ.kept hS.2.1).narrow (oc_F hD hS hA)).moved hW.alike⟩⟩
theorem oc_join (hP : va_P D vwCl (V ++ E) H) (hD : va_D A (V ++ E)) (hk : ∀ q : Nat, q < H.size → ¬ va_A V H.size q → H1[q]? = H[q]?) (hF : ∀ q, va_A V H.size q → A q) (hP1 : va_P D vwCl W1 H1) (hD1 : va_D (va_A V H.size) W1) : va_P D vwCl (W1 ++ E) H1 ∧ va_D A (W1 ++ E) := by
  have apart : ∀ (k : Nat) (q : Nat × va_E), E[k]? = some q → q.1 < H.size ∧ ¬ va_A V H.size q.1 := by
    intro k q hq
    have hl := (hP.r k q hq).lt
    refine ⟨hl, fun h => ?_⟩
    rcases h with ⟨k2, e, h⟩ | h
    · have hkl := (List.getElem?_eq_some_iff.mp h).1
      have := hD.1 k2 (V.length + k) (q.1, e) q (by rw [List.getElem?_append_left hkl]; exact h) (by rw [List.getElem?_append_right (Nat.le_add_right _ _), Nat.add_sub_cancel_left]; exact hq) rfl
      omega
    · omega
  refine ⟨va_P.app hP1 (fun k q hq => ?_), va_D.app (hD1.weaken (fun k q _ h => hF q.1 h)) hD.r (fun i j x y hx hy hxy => ?_)⟩
  · obtain ⟨g1, g2⟩ := apart k q hq
    exact (hP.r k q hq).kept (hk q.1 g1 g2)
  · exact (apart j y hy).2 (by rw [← hxy]; exact hD1.2 i x hx)
/-- a static method of the law, with handlers, that never throws -/
theorem ow_Si (S : CallFix p m c cc nL s args Ts own) (hM : vx_Met l y wsy rm (zlP D yy V H.size As) (oQi D yy 0 post V H.size) (oX D yy 0 px V H.size) mc ms (va_A V H.size)) (cw : vx_CSW R s args own index y bytes maxL ret hh wsy rm mc ms n) (hK : va_K D vwCl (tyl yy) s) (hP : va_P D vwCl (V ++ E) H) (hD : va_D A (V ++ E)) (hS : va_S A s.heap H locs) (hA : ∀ q, s.heap.size ≤ q → A q) (hZ : thrZ A s s.heap) (hN : ncP s) (hJ : jdZ A s s.heap)
    (hn : As.length = n) (hsize : ls.size = nL) (hst : st0 = As.reverse ++ rest) (hW : (rest.map fun v => v.category).sum ≤ 8) (hdg : decode cc pc = .ok (.invokestatic index, 3)) (hf : cells + mc ≤ R.cells ∧ slots + ms ≤ R.slots)
    (kk : ∀ (r : Int32) (V1 : va_W) (H1 : Heap) (locs1 : List Loc), post r V1 → va_P D vwCl (V1 ++ E) H1 → va_D A (V1 ++ E) → va_S A s.heap H1 locs1 → W p l e R s m args below meth c H1 locs1 (cells + mc) (slots + ms) Q (F0 m (pc + 3) ls (.int r :: rest))) : W p l e R s m args below meth c H locs cells slots Q (F0 m pc ls st0) := by
  have hpre := oc_pre hK hP hD hS hA hZ hN hJ As
  have hF := oc_F hD hS hA
  refine vx_calli (vx_runSX S hM cw ⟨hpre.1, hpre.2⟩ rfl hn hsize hst (lv_room (ls := ls) (rest := st0) (pc := pc) (m := m) hW) hdg hf) hS (fun q _ h => hF q h) hF (fun q _ h => hF q h) (fun E ce q9 u t H1 locs1 ht hvm hk hB hz1 hk1 hS h1 h2 h3 => ?_) (fun v u t H1 locs1 ht hvm hk hB hz1 hk1 hS => ?_)
  · exact absurd rfl hk.1
  · obtain ⟨-, hp⟩ := hk
    obtain ⟨hP1, hK1, hD1⟩ := hB
    rw [ht] at hP1
    obtain ⟨hP2, hD2⟩ := oc_join hP hD hk1 hF hP1 hD1
    exact kk v u H1 locs1 hp hP2 hD2 hS
theorem ow_Sd {post : UInt64 → va_W → Prop} (S : CallFix p m c cc nL s args Ts own) (hM : vx_Met l y wsy rm (zlP D yy V H.size As) (oQd D yy 0 post V H.size) (oX D yy 0 px V H.size) mc ms (va_A V H.size)) (cw : vx_CSW R s args own index y bytes maxL ret hh wsy rm mc ms n) (hK : va_K D vwCl (tyl yy) s) (hP : va_P D vwCl (V ++ E) H) (hD : va_D A (V ++ E)) (hS : va_S A s.heap H locs) (hA : ∀ q, s.heap.size ≤ q → A q) (hZ : thrZ A s s.heap) (hN : ncP s) (hJ : jdZ A s s.heap)
    (hn : As.length = n) (hsize : ls.size = nL) (hst : st0 = As.reverse ++ rest) (hW : (rest.map fun v => v.category).sum ≤ 8) (hdg : decode cc pc = .ok (.invokestatic index, 3)) (hf : cells + mc ≤ R.cells ∧ slots + ms ≤ R.slots)
    (kk : ∀ (r : UInt64) (V1 : va_W) (H1 : Heap) (locs1 : List Loc), post r V1 → va_P D vwCl (V1 ++ E) H1 → va_D A (V1 ++ E) → va_S A s.heap H1 locs1 → W p l e R s m args below meth c H1 locs1 (cells + mc) (slots + ms) Q (F0 m (pc + 3) ls (.double r :: rest))) : W p l e R s m args below meth c H locs cells slots Q (F0 m pc ls st0) := by
  have hpre := oc_pre hK hP hD hS hA hZ hN hJ As
  have hF := oc_F hD hS hA
  refine vx_calld (vx_runSX S hM cw ⟨hpre.1, hpre.2⟩ rfl hn hsize hst (lv_room (ls := ls) (rest := st0) (pc := pc) (m := m) hW) hdg hf) hS (fun q _ h => hF q h) hF (fun q _ h => hF q h) (fun E ce q9 u t H1 locs1 ht hvm hk hB hz1 hk1 hS h1 h2 h3 => ?_) (fun v u t H1 locs1 ht hvm hk hB hz1 hk1 hS => ?_)
  · exact absurd rfl hk.1
  · obtain ⟨-, hp⟩ := hk
    obtain ⟨hP1, hK1, hD1⟩ := hB
    rw [ht] at hP1
    obtain ⟨hP2, hD2⟩ := oc_join hP hD hk1 hF hP1 hD1
    exact kk v u H1 locs1 hp hP2 hD2 hS
theorem ow_Sf {post : UInt32 → va_W → Prop} (S : CallFix p m c cc nL s args Ts own) (hM : vx_Met l y wsy rm (zlP D yy V H.size As) (oQf D yy 0 post V H.size) (oX D yy 0 px V H.size) mc ms (va_A V H.size)) (cw : vx_CSW R s args own index y bytes maxL ret hh wsy rm mc ms n) (hK : va_K D vwCl (tyl yy) s) (hP : va_P D vwCl (V ++ E) H) (hD : va_D A (V ++ E)) (hS : va_S A s.heap H locs) (hA : ∀ q, s.heap.size ≤ q → A q) (hZ : thrZ A s s.heap) (hN : ncP s) (hJ : jdZ A s s.heap)
    (hn : As.length = n) (hsize : ls.size = nL) (hst : st0 = As.reverse ++ rest) (hW : (rest.map fun v => v.category).sum ≤ 8) (hdg : decode cc pc = .ok (.invokestatic index, 3)) (hf : cells + mc ≤ R.cells ∧ slots + ms ≤ R.slots)
    (kk : ∀ (r : UInt32) (V1 : va_W) (H1 : Heap) (locs1 : List Loc), post r V1 → va_P D vwCl (V1 ++ E) H1 → va_D A (V1 ++ E) → va_S A s.heap H1 locs1 → W p l e R s m args below meth c H1 locs1 (cells + mc) (slots + ms) Q (F0 m (pc + 3) ls (.float r :: rest))) : W p l e R s m args below meth c H locs cells slots Q (F0 m pc ls st0) := by
  have hpre := oc_pre hK hP hD hS hA hZ hN hJ As
  have hF := oc_F hD hS hA
  refine vx_callf (vx_runSX S hM cw ⟨hpre.1, hpre.2⟩ rfl hn hsize hst (lv_room (ls := ls) (rest := st0) (pc := pc) (m := m) hW) hdg hf) hS (fun q _ h => hF q h) hF (fun q _ h => hF q h) (fun E ce q9 u t H1 locs1 ht hvm hk hB hz1 hk1 hS h1 h2 h3 => ?_) (fun v u t H1 locs1 ht hvm hk hB hz1 hk1 hS => ?_)
  · exact absurd rfl hk.1
  · obtain ⟨-, hp⟩ := hk
    obtain ⟨hP1, hK1, hD1⟩ := hB
    rw [ht] at hP1
    obtain ⟨hP2, hD2⟩ := oc_join hP hD hk1 hF hP1 hD1
    exact kk v u H1 locs1 hp hP2 hD2 hS
/-- a static method of the law without handlers -/
theorem ow_Mi (S : CallFix p m c cc nL s args Ts own) (hM : Met l y wsy rm (zlP D yy V H.size As) (oQi D yy 0 post V H.size) mc ms (va_A V H.size)) (cw : CallB R s args own index y bytes maxL ret wsy rm mc ms n ∧ (Cond.static y).before args s = true) (hK : va_K D vwCl (tyl yy) s) (hP : va_P D vwCl (V ++ E) H) (hD : va_D A (V ++ E)) (hS : va_S A s.heap H locs) (hA : ∀ q, s.heap.size ≤ q → A q) (hZ : thrZ A s s.heap) (hN : ncP s) (hJ : jdZ A s s.heap)
    (hn : As.length = n) (hsize : ls.size = nL) (hst : st0 = As.reverse ++ rest) (hW : (rest.map fun v => v.category).sum ≤ 8) (hdg : decode cc pc = .ok (.invokestatic index, 3)) (hf : cells + mc ≤ R.cells ∧ slots + ms ≤ R.slots)
    (kk : ∀ (r : Int32) (V1 : va_W) (H1 : Heap) (locs1 : List Loc), post r V1 → va_P D vwCl (V1 ++ E) H1 → va_D A (V1 ++ E) → va_S A s.heap H1 locs1 → W p l e R s m args below meth c H1 locs1 (cells + mc) (slots + ms) Q (F0 m (pc + 3) ls (.int r :: rest))) : W p l e R s m args below meth c H locs cells slots Q (F0 m pc ls st0) := by
  have hpre := oc_pre hK hP hD hS hA hZ hN hJ As
  have hF := oc_F hD hS hA
  refine va_calli (va_runS S hM cw ⟨hpre.1, hpre.2⟩ rfl hn hsize hst (lv_room (ls := ls) (rest := st0) (pc := pc) (m := m) hW) hdg hf) hS (fun q _ h => hF q h) hF (fun v u t H1 locs1 ht hvm hk hB hz1 hk1 hS => ?_)
  obtain ⟨-, hp⟩ := hk
  obtain ⟨hP1, hK1, hD1⟩ := hB
  rw [ht] at hP1
  obtain ⟨hP2, hD2⟩ := oc_join hP hD hk1 hF hP1 hD1
  exact kk v u H1 locs1 hp hP2 hD2 hS
theorem ow_Ml {post : Int64 → va_W → Prop} (S : CallFix p m c cc nL s args Ts own) (hM : Met l y wsy rm (zlP D yy V H.size As) (oQl D yy post V H.size) mc ms (va_A V H.size)) (cw : CallB R s args own index y bytes maxL ret wsy rm mc ms n ∧ (Cond.static y).before args s = true) (hK : va_K D vwCl (tyl yy) s) (hP : va_P D vwCl (V ++ E) H) (hD : va_D A (V ++ E)) (hS : va_S A s.heap H locs) (hA : ∀ q, s.heap.size ≤ q → A q) (hZ : thrZ A s s.heap) (hN : ncP s) (hJ : jdZ A s s.heap)
    (hn : As.length = n) (hsize : ls.size = nL) (hst : st0 = As.reverse ++ rest) (hW : (rest.map fun v => v.category).sum ≤ 8) (hdg : decode cc pc = .ok (.invokestatic index, 3)) (hf : cells + mc ≤ R.cells ∧ slots + ms ≤ R.slots)
    (kk : ∀ (r : Int64) (V1 : va_W) (H1 : Heap) (locs1 : List Loc), post r V1 → va_P D vwCl (V1 ++ E) H1 → va_D A (V1 ++ E) → va_S A s.heap H1 locs1 → W p l e R s m args below meth c H1 locs1 (cells + mc) (slots + ms) Q (F0 m (pc + 3) ls (.long r :: rest))) : W p l e R s m args below meth c H locs cells slots Q (F0 m pc ls st0) := by
  have hpre := oc_pre hK hP hD hS hA hZ hN hJ As
  have hF := oc_F hD hS hA
  refine va_calll (va_runS S hM cw ⟨hpre.1, hpre.2⟩ rfl hn hsize hst (lv_room (ls := ls) (rest := st0) (pc := pc) (m := m) hW) hdg hf) hS (fun q _ h => hF q h) hF (fun v u t H1 locs1 ht hvm hk hB hz1 hk1 hS => ?_)
  obtain ⟨hP1, hK1, hD1⟩ := hB
  rw [ht] at hP1
  obtain ⟨hP2, hD2⟩ := oc_join hP hD hk1 hF hP1 hD1
  exact kk v u H1 locs1 hk hP2 hD2 hS
/-- a method of the archive itself: it answers, or it throws -/
theorem ow_V {k : Nat} (S : CallFix p m c cc nL s args Ts own) (hM : vx_Met l y wsy rm (zlP D yy V H.size (.ref b :: As)) (oQi D yy k post V H.size) (oX D yy k px V H.size) mc ms (va_A V H.size)) (cw : CallW R s args own RX7 index y bytes maxL ret wsy rm mc ms n) (he : V[0]? = some (b, .inr (11, fs))) (hK : va_K D vwCl (tyl yy) s) (hP : va_P D vwCl (V ++ E) H) (hD : va_D A (V ++ E)) (hS : va_S A s.heap H locs) (hA : ∀ q, s.heap.size ≤ q → A q) (hZ : thrZ A s s.heap) (hN : ncP s) (hJ : jdZ A s s.heap)
    (hn : As.length = n) (hsize : ls.size = nL) (hst : st0 = As.reverse ++ .ref b :: rest) (hW : (rest.map fun v => v.category).sum ≤ 8) (hdg : decode cc pc = .ok (.invokevirtual index, 3)) (hf : cells + mc ≤ R.cells ∧ slots + ms ≤ R.slots)
    (kx : ¬ k = 0 → ∀ (V1 : va_W) (ce : Cell) (q9 : Addr) (H1 : Heap) (locs1 : List Loc), px V1 → va_P D vwCl (V1 ++ E) H1 → va_D A (V1 ++ E) → va_S A s.heap H1 locs1 → H1[q9]? = some ce → ce.vm = .none → s.vm.findClass (exn k) = some ce.cls → vx_W p l e R s m args below meth c H1 locs1 (cells + mc) (slots + ms) Q (F0 m pc ls rest) q9)
    (kk : k = 0 → ∀ (r : Int32) (V1 : va_W) (H1 : Heap) (locs1 : List Loc), post r V1 → va_P D vwCl (V1 ++ E) H1 → va_D A (V1 ++ E) → va_S A s.heap H1 locs1 → W p l e R s m args below meth c H1 locs1 (cells + mc) (slots + ms) Q (F0 m (pc + 3) ls (.int r :: rest))) : W p l e R s m args below meth c H locs cells slots Q (F0 m pc ls st0) := by
  have hpre := oc_pre hK hP hD hS hA hZ hN hJ (.ref b :: As)
  have hF := oc_F hD hS hA
  refine vx_calli (vx_runV S hM cw ⟨hpre.1, va_recv hK hP.l (show vwCl[11]? = some (RX7, TX7, 11) from rfl) he, hpre.2⟩ rfl hn hsize hst (lv_room (ls := ls) (rest := st0) (pc := pc) (m := m) hW) hdg hf) hS (fun q _ h => hF q h) hF (fun q _ h => hF q h) (fun E ce q9 u t H1 locs1 ht hvm hk hB hz1 hk1 hS h1 h2 h3 => ?_) (fun r' u t H1 locs1 ht hvm hw hB hz1 hk1 hS => ?_)
  · obtain ⟨hE, hP1, hK1, hD1⟩ := hB
    rw [ht] at hP1
    subst hE
    obtain ⟨hP2, hD2⟩ := oc_join hP hD hk1 hF hP1 hD1
    exact kx hk.1 u ce q9 H1 locs1 hk.2 hP2 hD2 hS h1 h2 h3
  · obtain ⟨hP1, hK1, hD1⟩ := hB
    rw [ht] at hP1
    obtain ⟨hk, hr⟩ := hw
    obtain ⟨hP2, hD2⟩ := oc_join hP hD hk1 hF hP1 hD1
    exact kk hk r' u H1 locs1 hr hP2 hD2 hS
theorem ow_Vd {post : UInt64 → va_W → Prop} {k : Nat} (S : CallFix p m c cc nL s args Ts own) (hM : vx_Met l y wsy rm (zlP D yy V H.size (.ref b :: As)) (oQd D yy k post V H.size) (oX D yy k px V H.size) mc ms (va_A V H.size)) (cw : CallW R s args own RX7 index y bytes maxL ret wsy rm mc ms n) (he : V[0]? = some (b, .inr (11, fs))) (hK : va_K D vwCl (tyl yy) s) (hP : va_P D vwCl (V ++ E) H) (hD : va_D A (V ++ E)) (hS : va_S A s.heap H locs) (hA : ∀ q, s.heap.size ≤ q → A q) (hZ : thrZ A s s.heap) (hN : ncP s) (hJ : jdZ A s s.heap)
    (hn : As.length = n) (hsize : ls.size = nL) (hst : st0 = As.reverse ++ .ref b :: rest) (hW : (rest.map fun v => v.category).sum ≤ 8) (hdg : decode cc pc = .ok (.invokevirtual index, 3)) (hf : cells + mc ≤ R.cells ∧ slots + ms ≤ R.slots)
    (kx : ¬ k = 0 → ∀ (V1 : va_W) (ce : Cell) (q9 : Addr) (H1 : Heap) (locs1 : List Loc), px V1 → va_P D vwCl (V1 ++ E) H1 → va_D A (V1 ++ E) → va_S A s.heap H1 locs1 → H1[q9]? = some ce → ce.vm = .none → s.vm.findClass (exn k) = some ce.cls → vx_W p l e R s m args below meth c H1 locs1 (cells + mc) (slots + ms) Q (F0 m pc ls rest) q9)
    (kk : k = 0 → ∀ (r : UInt64) (V1 : va_W) (H1 : Heap) (locs1 : List Loc), post r V1 → va_P D vwCl (V1 ++ E) H1 → va_D A (V1 ++ E) → va_S A s.heap H1 locs1 → W p l e R s m args below meth c H1 locs1 (cells + mc) (slots + ms) Q (F0 m (pc + 3) ls (.double r :: rest))) : W p l e R s m args below meth c H locs cells slots Q (F0 m pc ls st0) := by
  have hpre := oc_pre hK hP hD hS hA hZ hN hJ (.ref b :: As)
  have hF := oc_F hD hS hA
  refine vx_calld (vx_runV S hM cw ⟨hpre.1, va_recv hK hP.l (show vwCl[11]? = some (RX7, TX7, 11) from rfl) he, hpre.2⟩ rfl hn hsize hst (lv_room (ls := ls) (rest := st0) (pc := pc) (m := m) hW) hdg hf) hS (fun q _ h => hF q h) hF (fun q _ h => hF q h) (fun E ce q9 u t H1 locs1 ht hvm hk hB hz1 hk1 hS h1 h2 h3 => ?_) (fun r' u t H1 locs1 ht hvm hw hB hz1 hk1 hS => ?_)
  · obtain ⟨hE, hP1, hK1, hD1⟩ := hB
    rw [ht] at hP1
    subst hE
    obtain ⟨hP2, hD2⟩ := oc_join hP hD hk1 hF hP1 hD1
    exact kx hk.1 u ce q9 H1 locs1 hk.2 hP2 hD2 hS h1 h2 h3
  · obtain ⟨hP1, hK1, hD1⟩ := hB
    rw [ht] at hP1
    obtain ⟨hk, hr⟩ := hw
    obtain ⟨hP2, hD2⟩ := oc_join hP hD hk1 hF hP1 hD1
    exact kk hk r' u H1 locs1 hr hP2 hD2 hS
theorem ow_Vf {post : UInt32 → va_W → Prop} {k : Nat} (S : CallFix p m c cc nL s args Ts own) (hM : vx_Met l y wsy rm (zlP D yy V H.size (.ref b :: As)) (oQf D yy k post V H.size) (oX D yy k px V H.size) mc ms (va_A V H.size)) (cw : CallW R s args own RX7 index y bytes maxL ret wsy rm mc ms n) (he : V[0]? = some (b, .inr (11, fs))) (hK : va_K D vwCl (tyl yy) s) (hP : va_P D vwCl (V ++ E) H) (hD : va_D A (V ++ E)) (hS : va_S A s.heap H locs) (hA : ∀ q, s.heap.size ≤ q → A q) (hZ : thrZ A s s.heap) (hN : ncP s) (hJ : jdZ A s s.heap)
    (hn : As.length = n) (hsize : ls.size = nL) (hst : st0 = As.reverse ++ .ref b :: rest) (hW : (rest.map fun v => v.category).sum ≤ 8) (hdg : decode cc pc = .ok (.invokevirtual index, 3)) (hf : cells + mc ≤ R.cells ∧ slots + ms ≤ R.slots)
    (kx : ¬ k = 0 → ∀ (V1 : va_W) (ce : Cell) (q9 : Addr) (H1 : Heap) (locs1 : List Loc), px V1 → va_P D vwCl (V1 ++ E) H1 → va_D A (V1 ++ E) → va_S A s.heap H1 locs1 → H1[q9]? = some ce → ce.vm = .none → s.vm.findClass (exn k) = some ce.cls → vx_W p l e R s m args below meth c H1 locs1 (cells + mc) (slots + ms) Q (F0 m pc ls rest) q9)
    (kk : k = 0 → ∀ (r : UInt32) (V1 : va_W) (H1 : Heap) (locs1 : List Loc), post r V1 → va_P D vwCl (V1 ++ E) H1 → va_D A (V1 ++ E) → va_S A s.heap H1 locs1 → W p l e R s m args below meth c H1 locs1 (cells + mc) (slots + ms) Q (F0 m (pc + 3) ls (.float r :: rest))) : W p l e R s m args below meth c H locs cells slots Q (F0 m pc ls st0) := by
  have hpre := oc_pre hK hP hD hS hA hZ hN hJ (.ref b :: As)
  have hF := oc_F hD hS hA
  refine vx_callf (vx_runV S hM cw ⟨hpre.1, va_recv hK hP.l (show vwCl[11]? = some (RX7, TX7, 11) from rfl) he, hpre.2⟩ rfl hn hsize hst (lv_room (ls := ls) (rest := st0) (pc := pc) (m := m) hW) hdg hf) hS (fun q _ h => hF q h) hF (fun q _ h => hF q h) (fun E ce q9 u t H1 locs1 ht hvm hk hB hz1 hk1 hS h1 h2 h3 => ?_) (fun r' u t H1 locs1 ht hvm hw hB hz1 hk1 hS => ?_)
  · obtain ⟨hE, hP1, hK1, hD1⟩ := hB
    rw [ht] at hP1
    subst hE
    obtain ⟨hP2, hD2⟩ := oc_join hP hD hk1 hF hP1 hD1
    exact kx hk.1 u ce q9 H1 locs1 hk.2 hP2 hD2 hS h1 h2 h3
  · obtain ⟨hP1, hK1, hD1⟩ := hB
    rw [ht] at hP1
    obtain ⟨hk, hr⟩ := hw
    obtain ⟨hP2, hD2⟩ := oc_join hP hD hk1 hF hP1 hD1
    exact kk hk r' u H1 locs1 hr hP2 hD2 hS
theorem o_end (hAe : va_A w0 s.heap.size = A) (hK : va_K D vwCl (tyl yy) s) (hP : va_P D vwCl (V ++ E) H) (hD : va_D A (V ++ E)) {t : State} (ht : t.heap = H) (hW : s.WarmedH t.vm) : wrB D yy V w0 s.heap.size t :=
  ⟨by rw [ht]; exact hP.l, va_K.moved hW.alike hK, by rw [hAe]; exact hD.l⟩
/-- ends of the law's methods -/
theorem oxret_i {v : Int32} (hx : p.tables.exec = Jvm.exec) (hb : c.code = cc) (hr : meth.sig.returnType = some .int) (hlocks : meth.locks = false) (hAe : va_A w0 s.heap.size = A) (hK : va_K D vwCl (tyl yy) s) (hP : va_P D vwCl (V ++ E) H) (hD : va_D A (V ++ E)) (hS : va_S A s.heap H locs) (hp : post v V)
    (hdg : decode cc pc = .ok (.ireturn, 1)) : W p l e R s m args below meth c H locs cells slots (vx_MQ below (oQi D yy 0 post w0 s.heap.size) (oX D yy 0 px w0 s.heap.size) args s cells slots (va_A w0 s.heap.size)) (F0 m pc ls [.int v]) :=
  vx_ret (W.iret hx hb hr (fun t ht hW => ⟨⟨v, V, rfl, ⟨rfl, hp⟩, o_end hAe hK hP hD ht hW⟩, by rw [hAe]; exact hS.F ht⟩) (by rw [hAe]; exact hS.2.2) hdg hlocks)
theorem oxret_d {v : UInt64} {post : UInt64 → va_W → Prop} (hx : p.tables.exec = Jvm.exec) (hb : c.code = cc) (hr : meth.sig.returnType = some .double) (hlocks : meth.locks = false) (hAe : va_A w0 s.heap.size = A) (hK : va_K D vwCl (tyl yy) s) (hP : va_P D vwCl (V ++ E) H) (hD : va_D A (V ++ E)) (hS : va_S A s.heap H locs) (hp : post v V)
    (hdg : decode cc pc = .ok (.dreturn, 1)) : W p l e R s m args below meth c H locs cells slots (vx_MQ below (oQd D yy 0 post w0 s.heap.size) (oX D yy 0 px w0 s.heap.size) args s cells slots (va_A w0 s.heap.size)) (F0 m pc ls [.double v]) :=
  vx_ret (W.dret hx hb hr (fun t ht hW => ⟨⟨v, V, rfl, ⟨rfl, hp⟩, o_end hAe hK hP hD ht hW⟩, by rw [hAe]; exact hS.F ht⟩) (by rw [hAe]; exact hS.2.2) hdg hlocks)
theorem oxret_f {v : UInt32} {post : UInt32 → va_W → Prop} (hx : p.tables.exec = Jvm.exec) (hb : c.code = cc) (hr : meth.sig.returnType = some .float) (hlocks : meth.locks = false) (hAe : va_A w0 s.heap.size = A) (hK : va_K D vwCl (tyl yy) s) (hP : va_P D vwCl (V ++ E) H) (hD : va_D A (V ++ E)) (hS : va_S A s.heap H locs) (hp : post v V)
    (hdg : decode cc pc = .ok (.freturn, 1)) : W p l e R s m args below meth c H locs cells slots (vx_MQ below (oQf D yy 0 post w0 s.heap.size) (oX D yy 0 px w0 s.heap.size) args s cells slots (va_A w0 s.heap.size)) (F0 m pc ls [.float v]) :=
  vx_ret (W.fret hx hb hr (fun t ht hW => ⟨⟨v, V, rfl, ⟨rfl, hp⟩, o_end hAe hK hP hD ht hW⟩, by rw [hAe]; exact hS.F ht⟩) (by rw [hAe]; exact hS.2.2) hdg hlocks)
theorem omret_i {v : Int32} (hx : p.tables.exec = Jvm.exec) (hb : c.code = cc) (hr : meth.sig.returnType = some .int) (hlocks : meth.locks = false) (hAe : va_A w0 s.heap.size = A) (hK : va_K D vwCl (tyl yy) s) (hP : va_P D vwCl (V ++ E) H) (hD : va_D A (V ++ E)) (hS : va_S A s.heap H locs) (hp : post v V)
    (hdg : decode cc pc = .ok (.ireturn, 1)) : W p l e R s m args below meth c H locs cells slots (MQ below (oQi D yy 0 post w0 s.heap.size) args s cells slots (va_A w0 s.heap.size)) (F0 m pc ls [.int v]) :=
  W.iret hx hb hr (fun t ht hW => ⟨⟨v, V, rfl, ⟨rfl, hp⟩, o_end hAe hK hP hD ht hW⟩, by rw [hAe]; exact hS.F ht⟩) (by rw [hAe]; exact hS.2.2) hdg hlocks
theorem omret_z {v : Int32} {ty : FieldType} (hx : p.tables.exec = Jvm.exec) (hb : c.code = cc) (hr : meth.sig.returnType = some ty) (hnn : narrow ty (.int v) = .int v) (hlocks : meth.locks = false) (hAe : va_A w0 s.heap.size = A) (hK : va_K D vwCl (tyl yy) s) (hP : va_P D vwCl (V ++ E) H) (hD : va_D A (V ++ E)) (hS : va_S A s.heap H locs) (hp : post v V)
    (hdg : decode cc pc = .ok (.ireturn, 1)) : W p l e R s m args below meth c H locs cells slots (MQ below (oQi D yy 0 post w0 s.heap.size) args s cells slots (va_A w0 s.heap.size)) (F0 m pc ls [.int v]) :=
  W.zret hx hb hr hnn (fun t ht hW => ⟨⟨v, V, rfl, ⟨rfl, hp⟩, o_end hAe hK hP hD ht hW⟩, by rw [hAe]; exact hS.F ht⟩) (by rw [hAe]; exact hS.2.2) hdg hlocks
theorem omret_l {v : Int64} {post : Int64 → va_W → Prop} (hx : p.tables.exec = Jvm.exec) (hb : c.code = cc) (hr : meth.sig.returnType = some .long) (hlocks : meth.locks = false) (hAe : va_A w0 s.heap.size = A) (hK : va_K D vwCl (tyl yy) s) (hP : va_P D vwCl (V ++ E) H) (hD : va_D A (V ++ E)) (hS : va_S A s.heap H locs) (hp : post v V)
    (hdg : decode cc pc = .ok (.lreturn, 1)) : W p l e R s m args below meth c H locs cells slots (MQ below (oQl D yy post w0 s.heap.size) args s cells slots (va_A w0 s.heap.size)) (F0 m pc ls [.long v]) :=
  W.lret hx hb hr (fun t ht hW => ⟨⟨v, V, rfl, hp, o_end hAe hK hP hD ht hW⟩, by rw [hAe]; exact hS.F ht⟩) (by rw [hAe]; exact hS.2.2) hdg hlocks
end OCALL

theorem Ob_head {y : Nat → ClassId} {at_ : Nat} {q : Lad} {us : List Lad} {sv : Option Lad} {rs dt ix lf : Int32} {M : Nat} {tx : Nat → Int32} {NN : Nat} {TT : Nat → Nat} {V : va_W} (h : Ob y at_ q us sv rs dt ix lf M tx NN TT V) : ∃ fs, V[0]? = some (at_, .inr (11, fs)) := by
  obtain ⟨u, v, mm, ml, bb, t_saved, t_ladder_size, t_ladder_hidden, t_ladder_keys, t_ladder_weights, t_ladder_towers, t_ladder_coin_number, t_ladder_coin_tossed, t_ladder_coin_heads, t_search_place, t_search_level, t_search_gone, t_search_fallen, t_search_spanned, t_clerk_detail, t_order_sign, t_order_number, t_order_weight, t_order_rungs, t_reader_at, t_reader_faulty, t_history_newest, t_history_amount, t_history_rk, t_history_rw, t_history_rt, t_history_rs, t_history_rh, t_history_rn, t_history_ro, t_history_rd, t_before_size, t_before_hidden, t_before_keys, t_before_weights, t_before_towers, t_before_coin_number, t_before_coin_tossed, t_before_coin_heads, t_snapshot_size, t_snapshot_hidden, t_snapshot_keys, t_snapshot_weights, t_snapshot_towers, t_snapshot_coin_number, t_snapshot_coin_tossed, t_snapshot_coin_heads, rfl, -⟩ := h
  exact ⟨_, rfl⟩
