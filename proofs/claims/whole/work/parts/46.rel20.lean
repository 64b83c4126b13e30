/-! one object, with what it leaves to do -/
abbrev KZ (r r' : RS) : Prop :=
  (r'.defined = r.defined ∧ r'.kind = r.kind ∧ r'.above = r.above ∧ r'.id = r.id ∧ r'.fields = r.fields ∧ r'.fName = r.fName ∧ r'.fType = r.fType ∧ r'.fSkip = r.fSkip) ∧
  (r'.objects = r.objects ∧ r'.sort = r.sort ∧ r'.classOf = r.classOf ∧ r'.nameOf = r.nameOf ∧ r'.size = r.size ∧ r'.value = r.value ∧ r'.standIn = r.standIn ∧ r'.extras = r.extras) ∧
  (r'.waiting = r.waiting ∧ r'.waits = r.waits ∧ r'.oldHandles = r.oldHandles ∧ r'.oldLength = r.oldLength ∧ r'.oldWaits = r.oldWaits ∧ r'.oldGiven = r.oldGiven) ∧
  (∀ L, r.length = nI L → L ≤ 1650 → ∃ L', r'.length = nI L' ∧ L ≤ L' ∧ L' ≤ 1650 ∧ ∀ i, i < L → r'.stream i = r.stream i)
theorem KZ.c0 {r r' : RS} (h : KZ r r') : r'.defined = r.defined ∧ r'.kind = r.kind ∧ r'.above = r.above ∧ r'.id = r.id ∧ r'.fields = r.fields ∧ r'.fName = r.fName ∧ r'.fType = r.fType ∧ r'.fSkip = r.fSkip := h.1
theorem KZ.o0 {r r' : RS} (h : KZ r r') : r'.objects = r.objects ∧ r'.sort = r.sort ∧ r'.classOf = r.classOf ∧ r'.nameOf = r.nameOf ∧ r'.size = r.size ∧ r'.value = r.value ∧ r'.standIn = r.standIn ∧ r'.extras = r.extras := h.2.1
theorem KZ.w0 {r r' : RS} (h : KZ r r') : r'.waiting = r.waiting ∧ r'.waits = r.waits ∧ r'.oldHandles = r.oldHandles ∧ r'.oldLength = r.oldLength ∧ r'.oldWaits = r.oldWaits ∧ r'.oldGiven = r.oldGiven := h.2.2.1
theorem KZ.ln {r r' : RS} (h : KZ r r') : ∀ L, r.length = nI L → L ≤ 1650 → ∃ L', r'.length = nI L' ∧ L ≤ L' ∧ L' ≤ 1650 ∧ ∀ i, i < L → r'.stream i = r.stream i := h.2.2.2
theorem KP.kz {r r' : RS} (h : KP r r') : KZ r r' := ⟨h.c0, h.o0, h.w0, h.ln⟩
theorem KS.kz {r r' : RS} (h : KS r r') : KZ r r' := ⟨h.c0, h.o0, h.w0, fun L h1 h2 => ⟨L, h.s0.2.1.trans h1, Nat.le_refl _, h2, fun i _ => by rw [h.s0.1]⟩⟩
theorem KZ.rfl9 (r : RS) : KZ r r := (KS.rfl9 r).kz
theorem KZ.trans {a b c : RS} (h : KZ a b) (g : KZ b c) : KZ a c := by
  obtain ⟨⟨x1, x2, x3, x4, x5, x6, x7, x8⟩, ⟨y1, y2, y3, y4, y5, y6, y7, y8⟩, ⟨z1, z2, z3, z4, z5, z6⟩, l1⟩ := h
  obtain ⟨⟨u1, u2, u3, u4, u5, u6, u7, u8⟩, ⟨v1, v2, v3, v4, v5, v6, v7, v8⟩, ⟨w1, w2, w3, w4, w5, w6⟩, l2⟩ := g
  refine ⟨⟨u1.trans x1, u2.trans x2, u3.trans x3, u4.trans x4, u5.trans x5, u6.trans x6, u7.trans x7, u8.trans x8⟩, ⟨v1.trans y1, v2.trans y2, v3.trans y3, v4.trans y4, v5.trans y5, v6.trans y6, v7.trans y7, v8.trans y8⟩, ⟨w1.trans z1, w2.trans z2, w3.trans z3, w4.trans z4, w5.trans z5, w6.trans z6⟩, fun L h1 h2 => ?_⟩
  obtain ⟨L1, a1, a2, a3, a4⟩ := l1 L h1 h2
  obtain ⟨L2, b1, b2, b3, b4⟩ := l2 L1 a1 a3
  exact ⟨L2, b1, by omega, b3, fun i hi => (b4 i (by omega)).trans (a4 i hi)⟩
theorem KZ.pq {cd : Nat → Option DT} {mk : Nat} {td : Nat → TT} {r r' : RS} (k : KZ r r') (h : Pq cd mk td r) : Pq cd mk td r' := by
  obtain ⟨⟨a1, a2, a3, a4, a5, a6, a7, a8⟩, ⟨b1, b2, b3, b4, b5, b6, b7, b8⟩, -⟩ := k
  refine ⟨⟨?_, ?_, ?_⟩, ⟨?_, ?_, ?_, ?_, ?_⟩⟩
  · rw [a1, a5]; exact h.1.no
  · rw [a1, a2, a3, a4, a5]; exact h.1.so
  · rw [a6, a7, a8]; exact h.1.fi
  · rw [b1]; exact h.2.ob
  · rw [b2, b3, b7, b8, b5]; exact h.2.o
  · rw [b6]; exact h.2.va
  · rw [b6]; exact h.2.tx
  · rw [b4]; exact h.2.nm
theorem KP.stk {cd : Nat → Option DT} {mk : Nat} {td : Nat → TT} {r r' : RS} {st : List IT} (k : KP r r') (h : STK cd mk td r st) : STK cd mk td r' st := by
  obtain ⟨t1, t2, t3, t4⟩ := k.t0
  exact ⟨t4.trans h.lf, h.le, by rw [t1, t2, t3]; exact h.it⟩
/-- given up: the bytes are the same, no handle is left, nothing is to be done -/
abbrev AB (x : ES) (r : RS) : Prop :=
  (x.2.1 = -3) ∧
  (x.1.length ≤ 1400) ∧
  (r.length = nI x.1.length) ∧
  (∀ i, i < x.1.length → r.stream i = x.1.getD i 0 &&& 255) ∧
  (∀ k, k < 35 → r.handles (hk k) = -1) ∧
  (r.given = 0) ∧
  (r.left = 0)
theorem AB.oc {x : ES} {r : RS} (h : AB x r) : x.2.1 = -3 := h.1
theorem AB.le {x : ES} {r : RS} (h : AB x r) : x.1.length ≤ 1400 := h.2.1
theorem AB.ln {x : ES} {r : RS} (h : AB x r) : r.length = nI x.1.length := h.2.2.1
theorem AB.st {x : ES} {r : RS} (h : AB x r) : ∀ i, i < x.1.length → r.stream i = x.1.getD i 0 &&& 255 := h.2.2.2.1
theorem AB.hd {x : ES} {r : RS} (h : AB x r) : ∀ k, k < 35 → r.handles (hk k) = -1 := h.2.2.2.2.1
theorem AB.gv {x : ES} {r : RS} (h : AB x r) : r.given = 0 := h.2.2.2.2.2.1
theorem AB.lf {x : ES} {r : RS} (h : AB x r) : r.left = 0 := h.2.2.2.2.2.2
def SE (x : ES) (r : RS) : Prop := EX 0 x r ∨ (x.2.1 = -2 ∧ FR r)
theorem Sim.st {P : Prop × (RS → Prop)} {f : ES → ES} {m : RS → Option RS} (h : Sim P 0 0 f m) {x : ES} {r : RS} (hr : P.2 r) (hE : SE x r) : ∃ r', m r = some r' ∧ KQ P.1 r r' ∧ SE (f x) r' := by
  rcases hE with hE | ⟨h1, h2⟩
  · exact h.2.2 x r hr hE
  · obtain ⟨r', a, b, c⟩ := h.2.1 r hr h2
    exact ⟨r', a, b, Or.inr ⟨h.1 x h1, c⟩⟩
/-- what a step of the writing may leave -/
def OUT (cd : Nat → Option DT) (mk : Nat) (td : Nat → TT) (r : RS) (y : ES) (st : List IT) (b : Int32) (r' : RS) : Prop :=
  KZ r r' ∧ (b = 0 ∨ b = 1) ∧ ((b = 1 ∧ EX 0 y r' ∧ STK cd mk td r' st) ∨ (y.2.1 = -2 ∧ FR r') ∨ (b = 0 ∧ AB y r'))
theorem out_sim {cd : Nat → Option DT} {mk : Nat} {td : Nat → TT} {f : ES → ES} {m : RS → Option RS} (h : Sim (False, Pq cd mk td) 0 0 f m) {x : ES} {r : RS} {st : List IT} (hq : Pq cd mk td r) (hE : SE x r) (hS : STK cd mk td r st) : ∃ r', Option.bind (m r) (fun y => some ((1 : Int32), y)) = some (1, r') ∧ OUT cd mk td r (f x) st 1 r' := by
  obtain ⟨r', a, b, c⟩ := h.st hq hE
  refine ⟨r', by rw [a]; rfl, b.1.kz, Or.inr rfl, ?_⟩
  rcases c with c | c
  · exact Or.inl ⟨rfl, c, b.1.stk hS⟩
  · exact Or.inr (Or.inl c)
/-- bytes, then items -/
theorem out_push {cd : Nat → Option DT} {mk : Nat} {td : Nat → TT} {f : ES → ES} {m : RS → Option RS} {n : RS → Option RS} (h : Sim (False, Pq cd mk td) 0 0 f m) {x : ES} {r : RS} {st st' : List IT} (hq : Pq cd mk td r) (hE : SE x r) (hS : STK cd mk td r st) (hn : ∀ r1, Pq cd mk td r1 → STK cd mk td r1 st → ∃ r2, n r1 = some r2 ∧ KS r1 r2 ∧ STK cd mk td r2 st') : ∃ r', Option.bind (Option.bind (m r) n) (fun y => some ((1 : Int32), y)) = some (1, r') ∧ OUT cd mk td r (f x) st' 1 r' := by
  obtain ⟨r1, a, b, c⟩ := h.st hq hE
  obtain ⟨r2, d, e, g⟩ := hn r1 ((stab0 False cd mk td) r r1 b hq) (b.1.stk hS)
  refine ⟨r2, by rw [a, Option.bind_some, d]; rfl, b.1.kz.trans e.kz, Or.inr rfl, ?_⟩
  rcases c with c | ⟨c1, c2⟩
  · exact Or.inl ⟨rfl, e.ex c, g⟩
  · exact Or.inr (Or.inl ⟨c1, e.fr c2⟩)
theorem nh_2 {K : Int32 → RS → Option RS} : ∀ (p n : Nat) (r : RS), p ≤ 51 → p < n → ∃ g, m_noHandles_2 K n (nI (51 - p)) r = K 51 (r.s_handles g) ∧ (∀ i, i < 51 - p → g i = r.handles i) ∧ ∀ i, 51 - p ≤ i → i < 51 → g i = -1 := by
  intro p
  induction p with
  | zero =>
    intro n r _ hn
    obtain ⟨n, rfl⟩ : ∃ m, n = m + 1 := ⟨n - 1, by omega⟩
    refine ⟨r.handles, ?_, fun _ _ => rfl, fun i h1 h2 => by omega⟩
    rw [m_noHandles_2, if_pos (by decide)]
    show K 51 r = K 51 (va_up r.1 _ (r.1 _), r.2.1, r.2.2)
    rw [va_up_id]
  | succ p ih =>
    intro n r hp hn
    obtain ⟨n, rfl⟩ : ∃ m, n = m + 1 := ⟨n - 1, by omega⟩
    rw [m_noHandles_2, if_neg (show ¬ (51 : Int32) ≤ nI (51 - (p + 1)) from nI_ge (b := 51) (by omega) (by decide)), wr_ok rfl (show 51 - (p + 1) < 51 by omega) (by decide), Option.bind_some, nI_1, show 51 - (p + 1) + 1 = 51 - p by omega]
    obtain ⟨g, a, b, c⟩ := ih n (r.s_handles (upd r.handles (51 - (p + 1)) (-1))) (by omega) (by omega)
    refine ⟨g, ?_, fun i hi => ?_, fun i h1 h2 => ?_⟩
    · rw [a]
      show K 51 (va_up (va_up r.1 _ _) _ g, r.2.1, r.2.2) = _
      rw [va_up_2]
    · rw [b i (by omega)]; exact pk_un (by omega)
    · by_cases hi : i = 51 - (p + 1)
      · rw [b i (by omega), hi]; exact pk_us
      · exact c i (by omega) h2
theorem r_noHandles (r : RS) : ∃ g, m_noHandles r = some ((r.s_handles g).s_given 0) ∧ ∀ i, i < 51 → g i = -1 := by
  obtain ⟨g, a, -, c⟩ := nh_2 (K := fun z1_1 r_7 => some (RS.s_given r_7 0)) 51 60 r (by decide) (by decide)
  rw [show nI (51 - 51) = 0 from rfl] at a
  exact ⟨g, a, fun i hi => c i (by omega) hi⟩
theorem ob_4 {α : Type} (a b c d : RS → Option RS) (n : RS → Option α) (r : RS) : Option.bind (a r) (fun y => Option.bind (b y) (fun y => Option.bind (c y) (fun y => Option.bind (d y) n))) = Option.bind (Option.bind (a r) (fun y => Option.bind (b y) (fun y => Option.bind (c y) (fun y => Option.bind (d y) (fun y => some y))))) n := by
  rw [ob_as]
  refine congrArg _ (funext fun y => ?_)
  rw [ob_as]
  refine congrArg _ (funext fun y => ?_)
  rw [ob_as]
  refine congrArg _ (funext fun y => ?_)
  rw [ob_id]
theorem ab_by : es_bytes 123 1 ++ es_bytes 121 1 = es_bytes 31609 2 := by decide +kernel
/-- an object that can't be written -/
theorem r_abort {cd : Nat → Option DT} {mk : Nat} {td : Nat → TT} {c : Nat} (c6 : c < 6) {x : ES} {r : RS} (st : List IT) (hq : Pq cd mk td r) (hE : SE x r) : ∃ r', Option.bind (m_abort (nI c) r) (fun y => some ((0 : Int32), y)) = some (0, r') ∧ OUT cd mk td r (es_abort x [nI (65 + c)]) st 0 r' := by
  have hP := stab0 False cd mk td
  have k1 := ap1 hP 0 121 1 (w9 := 1) (by decide) rfl (by omega) (Sim.id (False, Pq cd mk td) 0)
  have k2 := lt1 hP (65 + nI c) k1
  have k3 := ap1 hP 0 116 1 (w9 := 1) (by decide) rfl (by omega) k2
  have k4 := em1 hP 0 ((EmC.put 123 1).seq (EmC.put 121 1)) (a9 31609 (w := 2) (w9 := 2) (by decide) rfl) ab_by (by omega) k3
  obtain ⟨r1, a, b, d⟩ := k4.st hq hE
  obtain ⟨g, e1, e2⟩ := r_noHandles r1
  obtain ⟨z, hz⟩ : ∃ z : ES, z = es_put (es_utf (es_put (es_put (es_put x 123 1) 121 1) 116 1) [nI (65 + c)]) 121 1 := ⟨_, rfl⟩
  have hz2 : z = es_put (es_sign (es_put (es_put (es_put x 123 1) 121 1) 116 1) (65 + nI c)) 121 1 := by rw [hz, es_utf1, i65]
  have hab : es_abort x [nI (65 + c)] = if z.2.1 = 0 then es_oc z (-3) else z := by rw [hz]; rfl
  have em : m_abort (nI c) r = some (((r1.s_handles g).s_given 0).s_left 0) := by
    have a2 : Option.bind (m_append 31609 2 r) (fun y => Option.bind (m_append 116 1 y) (fun y => Option.bind (m_letter (65 + nI c) y) (fun y => Option.bind (m_append 121 1 y) (fun y => some y)))) = some r1 := a
    have key : m_abort (nI c) r = Option.bind (Option.bind (m_append 31609 2 r) (fun y => Option.bind (m_append 116 1 y) (fun y => Option.bind (m_letter (65 + nI c) y) (fun y => Option.bind (m_append 121 1 y) (fun y => some y))))) (fun y_16 => Option.bind (m_noHandles y_16) (fun y_21 => some (RS.s_left y_21 0))) := by
      unfold m_abort
      exact ob_4 (m_append 31609 2) (m_append 116 1) (m_letter (65 + nI c)) (m_append 121 1) (fun y_16 => Option.bind (m_noHandles y_16) (fun y_21 => some (RS.s_left y_21 0))) r
    rw [key, a2, Option.bind_some, e1, Option.bind_some]
  have kz : KZ r1 (((r1.s_handles g).s_given 0).s_left 0) := ⟨⟨rfl, rfl, rfl, rfl, rfl, rfl, rfl, rfl⟩, ⟨rfl, rfl, rfl, rfl, rfl, rfl, rfl, rfl⟩, ⟨rfl, rfl, rfl, rfl, rfl, rfl⟩, fun L h1 h2 => ⟨L, h1, Nat.le_refl _, h2, fun _ _ => rfl⟩⟩
  refine ⟨_, by rw [em]; rfl, b.1.kz.trans kz, Or.inl rfl, ?_⟩
  unfold SE at d
  try dsimp only at d
  rw [← hz2] at d
  have d2 := d
  rcases d2 with d2 | ⟨d2, d3⟩
  · right; right
    rw [hab, if_pos d2.oc]
    refine ⟨rfl, rfl, d2.le, d2.ln, d2.st, fun k h35 => ?_, rfl, rfl⟩
    show g (hk k) = -1
    exact e2 _ (hk_lt k h35)
  · right; left
    rw [hab, if_neg (by rw [d2]; decide)]
    exact ⟨d2, d3⟩
