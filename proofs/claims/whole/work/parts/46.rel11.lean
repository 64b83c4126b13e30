/-! what is written: the class's stream and the reference's -/
abbrev KP (r r' : RS) : Prop :=
  (r'.defined = r.defined ∧ r'.kind = r.kind ∧ r'.above = r.above ∧ r'.id = r.id ∧ r'.fields = r.fields ∧ r'.fName = r.fName ∧ r'.fType = r.fType ∧ r'.fSkip = r.fSkip) ∧
  (r'.objects = r.objects ∧ r'.sort = r.sort ∧ r'.classOf = r.classOf ∧ r'.nameOf = r.nameOf ∧ r'.size = r.size ∧ r'.value = r.value ∧ r'.standIn = r.standIn ∧ r'.extras = r.extras) ∧
  (r'.waiting = r.waiting ∧ r'.waits = r.waits ∧ r'.oldHandles = r.oldHandles ∧ r'.oldLength = r.oldLength ∧ r'.oldWaits = r.oldWaits ∧ r'.oldGiven = r.oldGiven) ∧
  (r'.todo = r.todo ∧ r'.todoOf = r.todoOf ∧ r'.todoWith = r.todoWith ∧ r'.left = r.left) ∧
  (∀ L, r.length = nI L → L ≤ 1650 → ∃ L', r'.length = nI L' ∧ L ≤ L' ∧ L' ≤ 1650 ∧ ∀ i, i < L → r'.stream i = r.stream i)
theorem KP.c0 {r r' : RS} (h : KP r r') : r'.defined = r.defined ∧ r'.kind = r.kind ∧ r'.above = r.above ∧ r'.id = r.id ∧ r'.fields = r.fields ∧ r'.fName = r.fName ∧ r'.fType = r.fType ∧ r'.fSkip = r.fSkip := h.1
theorem KP.o0 {r r' : RS} (h : KP r r') : r'.objects = r.objects ∧ r'.sort = r.sort ∧ r'.classOf = r.classOf ∧ r'.nameOf = r.nameOf ∧ r'.size = r.size ∧ r'.value = r.value ∧ r'.standIn = r.standIn ∧ r'.extras = r.extras := h.2.1
theorem KP.w0 {r r' : RS} (h : KP r r') : r'.waiting = r.waiting ∧ r'.waits = r.waits ∧ r'.oldHandles = r.oldHandles ∧ r'.oldLength = r.oldLength ∧ r'.oldWaits = r.oldWaits ∧ r'.oldGiven = r.oldGiven := h.2.2.1
theorem KP.t0 {r r' : RS} (h : KP r r') : r'.todo = r.todo ∧ r'.todoOf = r.todoOf ∧ r'.todoWith = r.todoWith ∧ r'.left = r.left := h.2.2.2.1
theorem KP.ln {r r' : RS} (h : KP r r') : ∀ L, r.length = nI L → L ≤ 1650 → ∃ L', r'.length = nI L' ∧ L ≤ L' ∧ L' ≤ 1650 ∧ ∀ i, i < L → r'.stream i = r.stream i := h.2.2.2.2
theorem KP.rfl9 (r : RS) : KP r r := ⟨⟨rfl, rfl, rfl, rfl, rfl, rfl, rfl, rfl⟩, ⟨rfl, rfl, rfl, rfl, rfl, rfl, rfl, rfl⟩, ⟨rfl, rfl, rfl, rfl, rfl, rfl⟩, ⟨rfl, rfl, rfl, rfl⟩, fun L h1 h2 => ⟨L, h1, Nat.le_refl _, h2, fun _ _ => rfl⟩⟩
theorem KP.trans {a b c : RS} (h : KP a b) (g : KP b c) : KP a c := by
  obtain ⟨⟨x1, x2, x3, x4, x5, x6, x7, x8⟩, ⟨y1, y2, y3, y4, y5, y6, y7, y8⟩, ⟨z1, z2, z3, z4, z5, z6⟩, ⟨t1, t2, t3, t4⟩, l1⟩ := h
  obtain ⟨⟨u1, u2, u3, u4, u5, u6, u7, u8⟩, ⟨v1, v2, v3, v4, v5, v6, v7, v8⟩, ⟨w1, w2, w3, w4, w5, w6⟩, ⟨s1, s2, s3, s4⟩, l2⟩ := g
  refine ⟨⟨u1.trans x1, u2.trans x2, u3.trans x3, u4.trans x4, u5.trans x5, u6.trans x6, u7.trans x7, u8.trans x8⟩, ⟨v1.trans y1, v2.trans y2, v3.trans y3, v4.trans y4, v5.trans y5, v6.trans y6, v7.trans y7, v8.trans y8⟩, ⟨w1.trans z1, w2.trans z2, w3.trans z3, w4.trans z4, w5.trans z5, w6.trans z6⟩, ⟨s1.trans t1, s2.trans t2, s3.trans t3, s4.trans t4⟩, fun L h1 h2 => ?_⟩
  obtain ⟨L1, a1, a2, a3, a4⟩ := l1 L h1 h2
  obtain ⟨L2, b1, b2, b3, b4⟩ := l2 L1 a1 a3
  exact ⟨L2, b1, by omega, b3, fun i hi => (b4 i (by omega)).trans (a4 i hi)⟩
theorem KP.rc {cd : Nat → Option DT} {r r' : RS} (k : KP r r') (h : RC cd r) : RC cd r' := by
  obtain ⟨⟨a1, a2, a3, a4, a5, a6, a7, a8⟩, -⟩ := k
  refine ⟨?_, ?_, ?_⟩
  · rw [a1, a5]; exact h.no
  · rw [a1, a2, a3, a4, a5]; exact h.so
  · rw [a6, a7, a8]; exact h.fi
theorem KP.ro {mk : Nat} {td : Nat → TT} {r r' : RS} (k : KP r r') (h : RO mk td r) : RO mk td r' := by
  obtain ⟨-, ⟨a1, a2, a3, a4, a5, a6, a7, a8⟩, -⟩ := k
  refine ⟨?_, ?_, ?_, ?_, ?_⟩
  · rw [a1]; exact h.ob
  · rw [a2, a3, a7, a8, a5]; exact h.o
  · rw [a6]; exact h.va
  · rw [a6]; exact h.tx
  · rw [a4]; exact h.nm
/-- the reference is past the limit -/
def FR (r : RS) : Prop := ∃ L, 1400 < L ∧ L ≤ 1650 ∧ r.length = nI L
/-- both streams are the same -/
abbrev EX (s : Nat) (x : ES) (r : RS) : Prop :=
  (x.2.1 = 0) ∧
  (x.1.length ≤ 1400) ∧
  (r.length = nI x.1.length) ∧
  (∀ i, i < x.1.length → r.stream i = x.1.getD i 0 &&& 255) ∧
  (RH x.2.2.1 x.2.2.2 r) ∧
  (∃ h : Nat, x.2.2.2 = nI h ∧ h + s ≤ x.1.length) ∧
  (∀ k, k < 35 → x.2.2.1 k = -1 ∨ ∃ h : Nat, h < 2 ^ 30 ∧ x.2.2.1 k = nI h)
theorem EX.oc {s : Nat} {x : ES} {r : RS} (h : EX s x r) : x.2.1 = 0 := h.1
theorem EX.le {s : Nat} {x : ES} {r : RS} (h : EX s x r) : x.1.length ≤ 1400 := h.2.1
theorem EX.ln {s : Nat} {x : ES} {r : RS} (h : EX s x r) : r.length = nI x.1.length := h.2.2.1
theorem EX.st {s : Nat} {x : ES} {r : RS} (h : EX s x r) : ∀ i, i < x.1.length → r.stream i = x.1.getD i 0 &&& 255 := h.2.2.2.1
theorem EX.rh {s : Nat} {x : ES} {r : RS} (h : EX s x r) : RH x.2.2.1 x.2.2.2 r := h.2.2.2.2.1
theorem EX.hn {s : Nat} {x : ES} {r : RS} (h : EX s x r) : ∃ h : Nat, x.2.2.2 = nI h ∧ h + s ≤ x.1.length := h.2.2.2.2.2.1
theorem EX.la {s : Nat} {x : ES} {r : RS} (h : EX s x r) : ∀ k, k < 35 → x.2.2.1 k = -1 ∨ ∃ h : Nat, h < 2 ^ 30 ∧ x.2.2.1 k = nI h := h.2.2.2.2.2.2
theorem EX.weak {s t : Nat} {x : ES} {r : RS} (h : EX s x r) (hst : t ≤ s) : EX t x r := by
  obtain ⟨a, b, c, d, e, ⟨h9, e1, e2⟩, g⟩ := h
  exact ⟨a, b, c, d, e, ⟨h9, e1, by omega⟩, g⟩
/-- f of the class is m of the reference: where the streams are the same, and where both are past the limit -/
def KQ (o : Prop) (r r' : RS) : Prop := KP r r' ∧ (o → r'.order = r.order)
theorem KQ.rfl9 (o : Prop) (r : RS) : KQ o r r := ⟨KP.rfl9 r, fun _ => rfl⟩
theorem KQ.trans {o : Prop} {a b c : RS} (h : KQ o a b) (g : KQ o b c) : KQ o a c := ⟨h.1.trans g.1, fun z => (g.2 z).trans (h.2 z)⟩
def Sim (P : Prop × (RS → Prop)) (s s' : Nat) (f : ES → ES) (m : RS → Option RS) : Prop :=
  (∀ x : ES, x.2.1 = -2 → (f x).2.1 = -2) ∧ (∀ r, P.2 r → FR r → ∃ r', m r = some r' ∧ KQ P.1 r r' ∧ FR r') ∧
  ∀ x r, P.2 r → EX s x r → ∃ r', m r = some r' ∧ KQ P.1 r r' ∧ (EX s' (f x) r' ∨ ((f x).2.1 = -2 ∧ FR r'))
def stab (P : Prop × (RS → Prop)) : Prop := ∀ r r', KQ P.1 r r' → P.2 r → P.2 r'
theorem Sim.seq {P : Prop × (RS → Prop)} (hP : stab P) {a b c : Nat} {f g : ES → ES} {m n : RS → Option RS} (h1 : Sim P a b f m) (h2 : Sim P b c g n) : Sim P a c (fun x => g (f x)) (fun r => Option.bind (m r) n) := by
  refine ⟨fun x hx => h2.1 _ (h1.1 x hx), fun r hr hF => ?_, fun x r hr hE => ?_⟩
  · obtain ⟨r1, e1, k1, F1⟩ := h1.2.1 r hr hF
    obtain ⟨r2, e2, k2, F2⟩ := h2.2.1 r1 (hP r r1 k1 hr) F1
    exact ⟨r2, by show Option.bind (m r) n = some r2; rw [e1]; exact e2, k1.trans k2, F2⟩
  · obtain ⟨r1, e1, k1, S1⟩ := h1.2.2 x r hr hE
    rcases S1 with S1 | ⟨S1, F1⟩
    · obtain ⟨r2, e2, k2, S2⟩ := h2.2.2 _ r1 (hP r r1 k1 hr) S1
      exact ⟨r2, by show Option.bind (m r) n = some r2; rw [e1]; exact e2, k1.trans k2, S2⟩
    · obtain ⟨r2, e2, k2, F2⟩ := h2.2.1 r1 (hP r r1 k1 hr) F1
      exact ⟨r2, by show Option.bind (m r) n = some r2; rw [e1]; exact e2, k1.trans k2, Or.inr ⟨h2.1 _ S1, F2⟩⟩
theorem Sim.weak {P : Prop × (RS → Prop)} {a b a' b' : Nat} {f : ES → ES} {m : RS → Option RS} (h : Sim P a b f m) (ha : a ≤ a') (hb : b' ≤ b) : Sim P a' b' f m := by
  refine ⟨h.1, h.2.1, fun x r hr hE => ?_⟩
  obtain ⟨r1, e1, k1, S1⟩ := h.2.2 x r hr (hE.weak ha)
  exact ⟨r1, e1, k1, S1.imp (fun z => z.weak hb) (fun z => z)⟩
theorem Sim.id (P : Prop × (RS → Prop)) (s : Nat) : Sim P s s (fun x => x) (fun r => some r) := ⟨fun _ h => h, fun r _ h => ⟨r, rfl, KQ.rfl9 _ r, h⟩, fun x r _ h => ⟨r, rfl, KQ.rfl9 _ r, Or.inl h⟩⟩
theorem Sim.congr {P : Prop × (RS → Prop)} {a b : Nat} {f g : ES → ES} {m n : RS → Option RS} (h : Sim P a b f m) (hf : ∀ x, g x = f x) (hm : ∀ r, P.2 r → n r = m r) : Sim P a b g n := by
  refine ⟨fun x hx => by rw [hf]; exact h.1 x hx, fun r hr => by rw [hm r hr]; exact h.2.1 r hr, fun x r hr => by rw [hm r hr, hf]; exact h.2.2 x r hr⟩
/-! bytes -/
def EmC (f : ES → ES) (B : List Int32) : Prop := ∀ x : ES, (x.2.1 = -2 → (f x).2.1 = -2) ∧ (x.2.1 = 0 → x.1.length ≤ 1400 → (x.1.length + B.length ≤ 1400 → f x = (x.1 ++ B, x.2)) ∧ (1400 < x.1.length + B.length → (f x).2.1 = -2))
def EmR (m : RS → Option RS) (B : List Int32) : Prop := ∀ (r : RS) (L : Nat), r.length = nI L → L ≤ 1650 → ∃ s', m r = some ((r.s_stream s').s_length (nI (min (L + B.length) 1650))) ∧ (∀ i, i < L → s' i = r.stream i) ∧ ∀ j, j < B.length → L + j < 1650 → s' (L + j) = B.getD j 0 &&& 255
theorem EmC.put (v : Int64) (w : Nat) : EmC (fun x => es_put x v w) (es_bytes v w) := by
  intro x
  rw [es_bytes_len]
  refine ⟨fun h => ?_, fun h0 hl => ⟨fun h1 => ?_, fun h1 => ?_⟩⟩
  · show (es_put x v w).2.1 = -2
    unfold es_put; rw [if_neg (by rw [h]; decide)]; exact h
  · show es_put x v w = _
    unfold es_put; rw [if_pos h0, if_neg (by omega)]
  · show (es_put x v w).2.1 = -2
    unfold es_put; rw [if_pos h0, if_pos h1]
theorem EmC.seq {f g : ES → ES} {B D : List Int32} (h1 : EmC f B) (h2 : EmC g D) : EmC (fun x => g (f x)) (B ++ D) := by
  intro x
  obtain ⟨a1, a2⟩ := h1 x
  refine ⟨fun h => (h2 _).1 (a1 h), fun h0 hl => ?_⟩
  obtain ⟨b1, b2⟩ := a2 h0 hl
  rw [List.length_append]
  refine ⟨fun h => ?_, fun h => ?_⟩
  · have e1 := b1 (by omega)
    have c := (h2 (x.1 ++ B, x.2)).2 h0 (by show (x.1 ++ B).length ≤ 1400; rw [List.length_append]; omega)
    show g (f x) = _
    rw [e1, c.1 (by show (x.1 ++ B).length + D.length ≤ 1400; rw [List.length_append]; omega)]
    show ((x.1 ++ B) ++ D, x.2) = _
    rw [List.append_assoc]
  · show (g (f x)).2.1 = -2
    by_cases hb : x.1.length + B.length ≤ 1400
    · have e1 := b1 hb
      have c := (h2 (x.1 ++ B, x.2)).2 h0 (by show (x.1 ++ B).length ≤ 1400; rw [List.length_append]; omega)
      rw [e1]; exact c.2 (by show 1400 < (x.1 ++ B).length + D.length; rw [List.length_append]; omega)
    · exact (h2 _).1 (b2 (by omega))
theorem EmC.fold (t : List Int32) : EmC (fun x => t.foldl (fun x c => es_put x c.toInt64 1) x) (t.flatMap (fun c => es_bytes c.toInt64 1)) := by
  induction t with
  | nil => intro x; exact ⟨fun h => h, fun _ h => ⟨fun _ => by show x = (x.1 ++ [], x.2); rw [List.append_nil], fun h2 => by have : ([] : List Int32).length = 0 := rfl; simp at h2; omega⟩⟩
  | cons c t ih => exact (EmC.put c.toInt64 1).seq ih
theorem EmC.utf (t : List Int32) : EmC (fun x => es_utf x t) (es_bytes (nI t.length).toInt64 2 ++ t.flatMap (fun c => es_bytes c.toInt64 1)) := (EmC.put _ 2).seq (EmC.fold t)
theorem EmR.app (v : Int64) {w : Nat} (hw : w ≤ 8) : EmR (m_append v (nI w)) (es_bytes v w) := by
  intro r L hL hL2
  obtain ⟨s', a, b, c⟩ := app_ok v hw hL hL2
  rw [es_bytes_len]
  exact ⟨s', a, b, fun j hj h9 => by rw [es_bytes_get _ _ _ hj]; exact c j hj h9⟩
theorem EmR.seq {m n : RS → Option RS} {B D : List Int32} (h1 : EmR m B) (h2 : EmR n D) : EmR (fun r => Option.bind (m r) n) (B ++ D) := by
  intro r L hL hL2
  obtain ⟨s1, a1, b1, c1⟩ := h1 r L hL hL2
  obtain ⟨s2, a2, b2, c2⟩ := h2 ((r.s_stream s1).s_length (nI (min (L + B.length) 1650))) (min (L + B.length) 1650) rfl (by omega)
  refine ⟨s2, ?_, fun i hi => ?_, fun j hj h9 => ?_⟩
  · show Option.bind (m r) n = _
    rw [a1, Option.bind_some, a2, RS.two_stream, List.length_append, show min (min (L + B.length) 1650 + D.length) 1650 = min (L + (B.length + D.length)) 1650 by omega]
  · rw [b2 i (by omega)]; exact b1 i hi
  · rw [List.length_append] at hj
    by_cases hjB : j < B.length
    · rw [b2 (L + j) (by omega), es_getl hjB]; exact c1 j hjB h9
    · rw [es_getr (by omega)]
      have := c2 (j - B.length) (by omega) (by omega)
      rw [show min (L + B.length) 1650 + (j - B.length) = L + j by omega] at this
      exact this
theorem EmR.none9 : EmR (fun r => some r) [] := by
  intro r L hL hL2
  refine ⟨r.stream, ?_, fun _ _ => rfl, fun j hj => absurd hj (Nat.not_lt_zero _)⟩
  show some r = _
  rw [show min (L + ([] : List Int32).length) 1650 = L by simp; omega, ← hL, RS.self_stream]
theorem EmR.keep {m : RS → Option RS} {B : List Int32} (h : EmR m B) {r r' : RS} {L : Nat} (hL : r.length = nI L) (hL2 : L ≤ 1650) (e : m r = some r') : (KP r r' ∧ r'.order = r.order) ∧ r'.handles = r.handles ∧ r'.given = r.given ∧ r'.length = nI (min (L + B.length) 1650) ∧ (∀ i, i < L → r'.stream i = r.stream i) ∧ ∀ j, j < B.length → L + j < 1650 → r'.stream (L + j) = B.getD j 0 &&& 255 := by
  obtain ⟨s', a, b, c⟩ := h r L hL hL2
  have := Option.some.inj (e.symm.trans a)
  subst this
  refine ⟨⟨⟨⟨rfl, rfl, rfl, rfl, rfl, rfl, rfl, rfl⟩, ⟨rfl, rfl, rfl, rfl, rfl, rfl, rfl, rfl⟩, ⟨rfl, rfl, rfl, rfl, rfl, rfl⟩, ⟨rfl, rfl, rfl, rfl⟩, fun L1 h1 h2 => ?_⟩, rfl⟩, rfl, rfl, rfl, b, c⟩
  have : L1 = L := (nI_eq (by omega) (by omega)).mp (h1.symm.trans hL)
  subst this
  exact ⟨_, rfl, by omega, by omega, b⟩
/-- bytes of the class are bytes of the reference -/
theorem sim_em {P : Prop × (RS → Prop)} {f : ES → ES} {m : RS → Option RS} {B D : List Int32} (hf : EmC f B) (hm : EmR m D) (e : B = D) (s : Nat) : Sim P s (s + B.length) f m := by
  subst e
  refine ⟨fun x hx => (hf x).1 hx, fun r _ hF => ?_, fun x r _ hE => ?_⟩
  · obtain ⟨L, h1, h2, h3⟩ := hF
    obtain ⟨s', a, -⟩ := hm r L h3 h2
    obtain ⟨k, -, -, l, -⟩ := hm.keep h3 h2 a
    exact ⟨_, a, ⟨k.1, fun _ => k.2⟩, _, by omega, by omega, l⟩
  · obtain ⟨a1, a2, a3, a4, a5, ⟨h, a6, a7⟩, a8⟩ := hE
    obtain ⟨s', a, -⟩ := hm r _ a3 (by omega)
    obtain ⟨k, k1, k2, l, p1, p2⟩ := hm.keep a3 (by omega) a
    refine ⟨_, a, ⟨k.1, fun _ => k.2⟩, ?_⟩
    obtain ⟨c1, c2⟩ := (hf x).2 a1 a2
    by_cases hfit : x.1.length + B.length ≤ 1400
    · left
      rw [c1 hfit]
      refine ⟨a1, ?_, ?_, fun i hi => ?_, ⟨?_, ?_⟩, ⟨h, a6, ?_⟩, a8⟩
      · show (x.1 ++ B).length ≤ 1400; rw [List.length_append]; omega
      · show _ = nI (x.1 ++ B).length; rw [List.length_append, l, show min (x.1.length + B.length) 1650 = x.1.length + B.length by omega]
      · have hi2 : i < (x.1 ++ B).length := hi
        rw [List.length_append] at hi2
        show _ = (x.1 ++ B).getD i 0 &&& 255
        by_cases hi3 : i < x.1.length
        · rw [es_getl hi3, p1 i hi3]; exact a4 i hi3
        · have := p2 (i - x.1.length) (by omega) (by omega)
          rw [show x.1.length + (i - x.1.length) = i by omega] at this
          rw [es_getr (by omega), this]
      · rw [k1]; exact a5.hd
      · rw [k2]; exact a5.gv
      · show h + (s + B.length) ≤ (x.1 ++ B).length; rw [List.length_append]; omega
    · right
      exact ⟨c2 (by omega), _, by omega, by omega, l⟩
/-! handles -/
theorem hk_inj : ∀ a, a < 35 → ∀ b, b < 35 → hk a = hk b → a = b := by decide +kernel
theorem sim_give {P : Prop × (RS → Prop)} (s : Nat) {k : Nat} (hk35 : k < 35) : Sim P (s + 1) s (fun x => es_give x k) (m_give (nI (hk k))) := by
  have hlt := hk_lt k hk35
  have em : ∀ r : RS, m_give (nI (hk k)) r = some ((r.s_handles (upd r.handles (hk k) r.given)).s_given (r.given + 1)) := by
    intro r; unfold m_give; rw [wr_ok rfl hlt (by decide), Option.bind_some]
  have kp : ∀ r : RS, KP r ((r.s_handles (upd r.handles (hk k) r.given)).s_given (r.given + 1)) := fun r => ⟨⟨rfl, rfl, rfl, rfl, rfl, rfl, rfl, rfl⟩, ⟨rfl, rfl, rfl, rfl, rfl, rfl, rfl, rfl⟩, ⟨rfl, rfl, rfl, rfl, rfl, rfl⟩, ⟨rfl, rfl, rfl, rfl⟩, fun L h1 h2 => ⟨L, h1, Nat.le_refl _, h2, fun _ _ => rfl⟩⟩
  refine ⟨fun x hx => hx, fun r _ hF => ⟨_, em r, ⟨kp r, fun _ => rfl⟩, hF⟩, fun x r _ hE => ⟨_, em r, ⟨kp r, fun _ => rfl⟩, Or.inl ?_⟩⟩
  obtain ⟨a1, a2, a3, a4, a5, ⟨h, a6, a7⟩, a8⟩ := hE
  refine ⟨a1, a2, a3, a4, ⟨fun j hj => ?_, ?_⟩, ⟨h + 1, ?_, ?_⟩, fun j hj => ?_⟩
  · show upd r.handles (hk k) r.given (hk j) = upd x.2.2.1 k x.2.2.2 j
    by_cases hjk : j = k
    · rw [hjk, pk_us, pk_us]; exact a5.gv
    · rw [pk_un hjk, pk_un (fun z => hjk (hk_inj j hj k hk35 z))]; exact a5.hd j hj
  · show r.given + 1 = x.2.2.2 + 1; rw [a5.gv]
  · show x.2.2.2 + 1 = _; rw [a6, nI_1]
  · show h + 1 + s ≤ x.1.length; omega
  · show upd x.2.2.1 k x.2.2.2 j = -1 ∨ ∃ h : Nat, h < 2 ^ 30 ∧ upd x.2.2.1 k x.2.2.2 j = nI h
    by_cases hjk : j = k
    · rw [hjk, pk_us]; exact Or.inr ⟨h, by omega, a6⟩
    · rw [pk_un hjk]; exact a8 j hj
def es_rf (x : ES) (k : Nat) : ES := es_put (es_put x 113 1) ((8257536 + x.2.2.1 k).toInt64) 4
theorem sim_refer {P : Prop × (RS → Prop)} (s : Nat) {k : Nat} (hk35 : k < 35) : Sim P s s (fun x => es_rf x k) (m_refer (nI (hk k))) := by
  have hlt := hk_lt k hk35
  -- the same bytes, once the handle is known
  have key : ∀ (v : Int32) (r : RS), r.handles (hk k) = v → m_refer (nI (hk k)) r = Option.bind (m_append 113 (nI 1) r) (m_append ((8257536 + v).toInt64) (nI 4)) ∨ ∀ L, r.length = nI L → ¬ L ≤ 1650 := by
    intro v r hv
    by_cases hL : ∃ L, r.length = nI L ∧ L ≤ 1650
    · left
      obtain ⟨L, h1, h2⟩ := hL
      obtain ⟨s', a, b, c⟩ := app_ok (r := r) 113 (w := 1) (by decide) h1 h2
      unfold m_refer
      show Option.bind (m_append 113 (nI 1) r) _ = _
      rw [a, Option.bind_some, rd_ok rfl hlt (by decide), Option.bind_some, Option.bind_some]
      show Option.bind (m_append ((8257536 + r.handles (hk k)).toInt64) (nI 4) _) some = _
      rw [hv]
      rcases m_append ((8257536 + v).toInt64) (nI 4) ((r.s_stream s').s_length (nI (min (L + 1) 1650))) with _ | z
      · rfl
      · rfl
    · right; intro L h1 h2; exact hL ⟨L, h1, h2⟩
  have em : ∀ v : Int32, EmR (fun r => Option.bind (m_append 113 (nI 1) r) (m_append ((8257536 + v).toInt64) (nI 4))) (es_bytes 113 1 ++ es_bytes ((8257536 + v).toInt64) 4) := fun v => (EmR.app 113 (w := 1) (by decide)).seq (EmR.app _ (w := 4) (by decide))
  have ec : ∀ v : Int32, EmC (fun x => es_put (es_put x 113 1) ((8257536 + v).toInt64) 4) (es_bytes 113 1 ++ es_bytes ((8257536 + v).toInt64) 4) := fun v => (EmC.put 113 1).seq (EmC.put _ 4)
  refine ⟨fun x hx => (ec (x.2.2.1 k) x).1 hx, fun r hr hF => ?_, fun x r hr hE => ?_⟩
  · obtain ⟨r', e, q⟩ := (sim_em (P := (P.1, fun _ => True)) (ec (r.handles (hk k))) (em (r.handles (hk k))) rfl 0).2.1 r trivial hF
    obtain ⟨L, h1, h2, h3⟩ := hF
    rcases key _ r rfl with z | z
    · exact ⟨r', by rw [z]; exact e, q⟩
    · exact absurd h2 (z L h3)
  · obtain ⟨r', e, q1, q2⟩ := (sim_em (P := (P.1, fun _ => True)) (ec (x.2.2.1 k)) (em (x.2.2.1 k)) rfl s).2.2 x r trivial hE
    rcases key (x.2.2.1 k) r (hE.rh.hd k hk35) with z | z
    · exact ⟨r', by rw [z]; exact e, q1, q2.imp (fun y => y.weak (by omega)) (fun y => y)⟩
    · exact absurd (show x.1.length ≤ 1650 by have := hE.le; omega) (z _ hE.ln)
/-- either it has a handle, or it is written -/
theorem sim_ref {P : Prop × (RS → Prop)} {s s' : Nat} {k : Nat} (hk35 : k < 35) {F : ES → ES} {A : RS → Option RS} (hF : Sim P s s' F A) (hs : s' ≤ s) : Sim P s s' (fun x => if x.2.2.1 k = -1 then F x else es_rf x k) (fun r => Option.bind (rd r.handles 51 (nI (hk k))) (fun v => if 0 ≤ v then m_refer (nI (hk k)) r else A r)) := by
  have hlt := hk_lt k hk35
  have hR := sim_refer (P := P) s hk35
  have em : ∀ r : RS, Option.bind (rd r.handles 51 (nI (hk k))) (fun v => if 0 ≤ v then m_refer (nI (hk k)) r else A r) = (if 0 ≤ r.handles (hk k) then m_refer (nI (hk k)) r else A r) := by
    intro r; rw [rd_ok rfl hlt (by decide), Option.bind_some]
  refine ⟨fun x hx => ?_, fun r hr hFR => ?_, fun x r hr hE => ?_⟩
  · show (if x.2.2.1 k = -1 then F x else es_rf x k).2.1 = -2
    by_cases h : x.2.2.1 k = -1
    · rw [if_pos h]; exact hF.1 x hx
    · rw [if_neg h]; exact hR.1 x hx
  · show ∃ r', Option.bind (rd r.handles 51 (nI (hk k))) (fun v => if 0 ≤ v then m_refer (nI (hk k)) r else A r) = some r' ∧ _
    rw [em]
    by_cases h : 0 ≤ r.handles (hk k)
    · rw [if_pos h]; exact hR.2.1 r hr hFR
    · rw [if_neg h]; exact hF.2.1 r hr hFR
  · show ∃ r', Option.bind (rd r.handles 51 (nI (hk k))) (fun v => if 0 ≤ v then m_refer (nI (hk k)) r else A r) = some r' ∧ _ ∧ (EX s' (if x.2.2.1 k = -1 then F x else es_rf x k) r' ∨ ((if x.2.2.1 k = -1 then F x else es_rf x k).2.1 = -2 ∧ FR r'))
    rw [em, hE.rh.hd k hk35]
    rcases hE.la k hk35 with h | ⟨h9, hh, h⟩
    · rw [h, if_neg (by decide), if_pos rfl]; exact hF.2.2 x r hr hE
    · have hn1 : ¬ x.2.2.1 k = -1 := by rw [h]; exact nI_ne1 (by omega)
      rw [if_pos (by rw [h]; exact nI_pos' (by omega)), if_neg hn1]
      obtain ⟨r', a, b, c⟩ := hR.2.2 x r hr hE
      exact ⟨r', a, b, c.imp (fun y => y.weak hs) (fun y => y)⟩
