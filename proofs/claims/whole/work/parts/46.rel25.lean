/-! write and reset -/
abbrev RX (x : ES) (q : List Int32) (r : RS) : Prop :=
  (EX 0 x r) ∧
  (RW q r) ∧
  (q.length < 255)
theorem RX.ex {x : ES} {q : List Int32} {r : RS} (h : RX x q r) : EX 0 x r := h.1
theorem RX.rw {x : ES} {q : List Int32} {r : RS} (h : RX x q r) : RW q r := h.2.1
theorem RX.q5 {x : ES} {q : List Int32} {r : RS} (h : RX x q r) : q.length < 255 := h.2.2
/-- what is restored is what was -/
theorem r_restore {x : ES} {q : List Int32} {r r9 : RS} {g g9 : Nat → Int32} (hX : RX x q r) (hg : ∀ i, i < 51 → g i = r.handles i) (k : KZ (rmb r g) r9 ∨ KZ ((rmb r g).s_waits 0) r9) (hg9 : ∀ i, i < 51 → g9 i = r9.oldHandles i) : RX x q (bck r9 g9) := by
  obtain ⟨hE, hW, h5⟩ := hX
  have w : r9.waiting = r.waiting ∧ r9.oldHandles = g ∧ r9.oldLength = r.length ∧ r9.oldWaits = r.waits ∧ r9.oldGiven = r.given := by
    rcases k with k | k
    · obtain ⟨a1, a2, a3, a4, a5, a6⟩ := k.w0; exact ⟨a1, a3, a4, a5, a6⟩
    · obtain ⟨a1, a2, a3, a4, a5, a6⟩ := k.w0; exact ⟨a1, a3, a4, a5, a6⟩
  have st : ∀ i, i < x.1.length → r9.stream i = r.stream i := by
    have hle := hE.le
    rcases k with k | k
    · obtain ⟨L', -, -, -, z⟩ := k.ln x.1.length hE.ln (by omega); exact z
    · obtain ⟨L', -, -, -, z⟩ := k.ln x.1.length hE.ln (by omega); exact z
  obtain ⟨w1, w2, w3, w4, w5⟩ := w
  refine ⟨⟨hE.oc, hE.le, ?_, fun i hi => ?_, ⟨fun j hj => ?_, ?_⟩, hE.hn, hE.la⟩, ⟨?_, fun i hi => ?_, hW.q5⟩, h5⟩
  · show r9.oldLength = _; rw [w3]; exact hE.ln
  · show r9.stream i = _; rw [st i hi]; exact hE.st i hi
  · show g9 (hk j) = _; rw [hg9 _ (hk_lt j hj), w2, hg _ (hk_lt j hj)]; exact hE.rh.hd j hj
  · show r9.oldGiven = _; rw [w5]; exact hE.rh.gv
  · show r9.oldWaits = _; rw [w4]; exact hW.wn
  · show r9.waiting i = _; rw [w1]; exact hW.wt i hi
theorem kz_waits (r : RS) : Pq = Pq ∧ ∀ v, (r.s_waits v).stream = r.stream := ⟨rfl, fun _ => rfl⟩
theorem cpy35 (f g : Nat → Int32) (k : Nat) (h : k < 35) : va_cpy f g 0 0 35 k = f k := by simp [va_cpy, h]
/-- the class's own restoring -/
theorem set_back {x y : ES} {q : List Int32} {sn : SN} (hx : x.2.1 = 0) (hle : es_le x y) (hy : y.2.1 = -2) {r : RS} (h : RX x q r) : RX (es_set y x.1.length (es_snap x q.length sn)) q r := by
  have e : es_set y x.1.length (es_snap x q.length sn) = (y.1.take x.1.length, 0, va_cpy (va_cpy x.2.2.1 sn.1 0 0 35) y.2.2.1 0 0 35, x.2.2.2) := by
    unfold es_set; rw [if_pos hy]; rfl
  have et : y.1.take x.1.length = x.1 := List.prefix_iff_eq_take.mp hle |>.symm
  have ela : ∀ k, k < 35 → va_cpy (va_cpy x.2.2.1 sn.1 0 0 35) y.2.2.1 0 0 35 k = x.2.2.1 k := fun k hk => by rw [cpy35 _ _ _ hk, cpy35 _ _ _ hk]
  rw [e, et]
  obtain ⟨hE, hW, h5⟩ := h
  exact ⟨⟨rfl, hE.le, hE.ln, hE.st, ⟨fun j hj => (hE.rh.hd j hj).trans (ela j hj).symm, hE.rh.gv⟩, hE.hn, fun j hj => by
    show va_cpy (va_cpy x.2.2.1 sn.1 0 0 35) y.2.2.1 0 0 35 j = -1 ∨ ∃ h : Nat, h < 2 ^ 30 ∧ va_cpy (va_cpy x.2.2.1 sn.1 0 0 35) y.2.2.1 0 0 35 j = nI h
    rw [ela j hj]; exact hE.la j hj⟩, hW, h5⟩
theorem RW.nil {r : RS} (h : r.waits = 0) : RW [] r := ⟨h, fun i hi => absurd hi (Nat.not_lt_zero _), Nat.zero_le _⟩
theorem r_write {cd : Nat → Option DT} {mk : Nat} {td : Nat → TT} {x : ES} {q : List Int32} {sn : SN} {r : RS} (hG : GI cd mk td) (hq : Pq cd mk td r) (hX : RX x q r) (o u : Int32) : ∃ r', m_write o u r = some ((ga_write cd mk td x q sn o u).1, r') ∧ Pq cd mk td r' ∧ RX (ga_write cd mk td x q sn o u).2.1 (ga_write cd mk td x q sn o u).2.2.1 r' := by
  have hm := hG.mk12
  have hx0 := hX.ex.oc
  unfold ga_write m_write
  by_cases hno : ¬ o = -1 ∧ ga_made mk o = 0
  · rw [if_pos hno]
    refine ⟨r, ?_, hq, hX⟩
    by_cases h1 : o < -1
    · rw [if_pos h1]
    rw [if_neg h1]
    rcases ga_made_0 hno.2 with z | z
    · exact absurd (i_m1 z h1) hno.1
    · rw [if_neg (by rw [hq.2.ob]; exact z)]
  rw [if_neg hno]
  have hg : wf_g mk o := by
    by_cases h1 : o = -1
    · exact Or.inl h1
    · obtain ⟨i, hi, e, -⟩ := ga_made_some (mk := mk) (o := o) (by omega) (fun z => hno ⟨h1, z⟩)
      exact Or.inr ⟨i, hi, e⟩
  have h1 : ¬ o < -1 := by
    rcases hg with z | ⟨i, hi, z⟩
    · rw [z]; decide
    · rw [z]; exact fun z2 => nI_pos (n := i) (by omega) (Int32.lt_trans z2 (by decide))
  have h2 : o < r.objects := by
    rw [hq.2.ob]
    rcases hg with z | ⟨i, hi, z⟩
    · rw [z]; exact Int32.lt_of_lt_of_le (by decide) (nI_pos' (n := mk) (by omega))
    · rw [z]; exact nI_lt hi (by omega)
  rw [if_neg h1, if_pos h2]
  obtain ⟨g, e1, e2⟩ := r_remember r
  rw [e1, Option.bind_some]
  have kz0 : KZ r (rmb r g) → True := fun _ => trivial
  have hq1 : Pq cd mk td (rmb r g) := ⟨⟨hq.1.no, hq.1.so, hq.1.fi⟩, ⟨hq.2.ob, hq.2.o, hq.2.va, hq.2.tx, hq.2.nm⟩⟩
  have hE1 : EX 0 x (rmb r g) := ⟨hX.ex.oc, hX.ex.le, hX.ex.ln, hX.ex.st, ⟨hX.ex.rh.hd, hX.ex.rh.gv⟩, hX.ex.hn, hX.ex.la⟩
  have hW1 : RW q (rmb r g) := ⟨hX.rw.wn, hX.rw.wt, hX.rw.q5⟩
  obtain ⟨r2, f1, f2, f3⟩ := r_flush (cd := cd) (mk := mk) (td := td) hq1 hW1 (Or.inl hE1)
  rw [f1, Option.bind_some]
  obtain ⟨x1, hx1⟩ : ∃ x1, x1 = es_flush x q := ⟨_, rfl⟩
  rw [← hx1] at f3 ⊢
  obtain ⟨r3, hr3⟩ : ∃ r3, r3 = (r2.s_waits 0).s_left 0 := ⟨_, rfl⟩
  rw [← hr3]
  have hq3 : Pq cd mk td r3 := by
    have := f2.kz.pq hq1
    rw [hr3]; exact ⟨⟨this.1.no, this.1.so, this.1.fi⟩, ⟨this.2.ob, this.2.o, this.2.va, this.2.tx, this.2.nm⟩⟩
  have hE3 : SE x1 r3 := by
    rw [hr3]
    rcases f3 with z | ⟨z1, z2⟩
    · exact Or.inl ⟨z.oc, z.le, z.ln, z.st, ⟨z.rh.hd, z.rh.gv⟩, z.hn, z.la⟩
    · exact Or.inr ⟨z1, z2⟩
  have kz3 : KZ ((rmb r g).s_waits 0) r3 := by
    rw [hr3]
    obtain ⟨a1, a2, a3, a4, a5, a6⟩ := f2.w0
    exact ⟨f2.c0, f2.o0, ⟨a1, rfl, a3, a4, a5, a6⟩, f2.ln⟩
  have hS3 : STK cd mk td r3 [] := by rw [hr3]; exact ⟨rfl, by decide, fun j i hj => absurd hj (by simp)⟩
  obtain ⟨b, r4, w1, w2⟩ := r_wo hG (u := u) hg (x := x1) (r := r3) (st := []) (by decide) hq3 hE3 hS3
  rw [w1, Option.bind_some]
  obtain ⟨k4, b4, o4⟩ := w2
  rw [List.append_nil] at o4
  obtain ⟨y, hy⟩ : ∃ y, y = ga_obj cd td 13 x1 o u := ⟨_, rfl⟩
  -- the end of the run
  obtain ⟨K, hK⟩ : ∃ K : Int32 → Int32 → Int32 → RS → Option (Int32 × RS), K = (fun z3_20 z1_20 z2_20 r_30 => Option.bind (m_tooLong r_30) (fun y_32 => if (y_32.1 : Int32) = 0 then (if (z3_20 : Int32) = 0 then (some ((-3), y_32.2)) else (some (y_32.2.length, y_32.2))) else (some ((-2), y_32.2)))) := ⟨_, rfl⟩
  have hloop : ∃ w r5, m_write_35 K 1000 b o u r4 = K w o u r5 ∧ KZ r3 r5 ∧ FIN y w r5 := by
    have hyx : ¬ (gk_x cd td x1 o u).2.1 = 0 → y = gk_x cd td x1 o u := by
      intro hn
      rcases hE3 with hE3 | ⟨z1, z2⟩
      · obtain ⟨n, hrun⟩ := Rn_write hG.gd.wd hG.wt hm (u := u) hg hE3.dq
        rw [← hy] at hrun
        exact rn_oc n _ _ y hrun hn
      · have h9 : ¬ x1.2.1 = 0 := by rw [z1]; decide
        have e1 : gk_x cd td x1 o u = x1 := by unfold gk_x; rw [if_neg h9]
        rw [e1, hy, ga_obj_s, if_neg h9]
    rcases o4 with ⟨hb, z1, z2⟩ | ⟨z1, z2⟩ | ⟨hb, z1⟩
    · have hE3' : EX 0 x1 r3 := by
        rcases hE3 with h | ⟨h, -⟩
        · exact h
        · exfalso
          have e1 : gk_x cd td x1 o u = x1 := by unfold gk_x; rw [if_neg (by rw [h]; decide)]
          rw [e1] at z1
          exact absurd (z1.oc.symm.trans h) (by decide)
      obtain ⟨n, hrun⟩ := Rn_write hG.gd.wd hG.wt hm (u := u) hg hE3'.dq
      rw [← hy] at hrun
      have hlen := gk_klen hG (x := x1) (u := u) hg
      have hfr := fr_le (gk_x cd td x1 o u).2.2.1 12
      rw [hb]
      obtain ⟨w, r5, c1, c2, c3⟩ := r_loop hG (K := K) (l1 := o) (l2 := u) n _ _ r4 1000 y hrun (okI_k hG.gd.wd hG.wt hm hg) (by unfold phi; omega) (by unfold phi; omega) (k4.pq hq3) z1 z2
      exact ⟨w, r5, c1, k4.trans c2, c3⟩
    · exact ⟨b, r4, loop_full z2 999, k4, Or.inr (Or.inl ⟨by rw [hyx (by rw [z1]; decide)]; exact z1, z2⟩)⟩
    · exact ⟨b, r4, loop_ab z1 999, k4, Or.inr (Or.inr ⟨hb, by rw [hyx (by rw [z1.oc]; decide)]; exact z1⟩)⟩
  obtain ⟨w, r5, c1, c2, c3⟩ := hloop
  show ∃ r', m_write_35 (fun z3_20 z1_20 z2_20 r_30 => Option.bind (m_tooLong r_30) (fun y_32 => if (y_32.1 : Int32) = 0 then (if (z3_20 : Int32) = 0 then (some ((-3), y_32.2)) else (some (y_32.2.length, y_32.2))) else (some ((-2), y_32.2)))) 1000 b o u r4 = some ((ga_settle (ga_obj cd td 13 x1 o u) x.1.length q (es_snap x q.length sn)).1, r') ∧ _
  rw [← hK, c1, hK, ← hy]
  have kz5 := kz3.trans c2
  have hq5 : Pq cd mk td r5 := c2.pq hq3
  have hw5 : r5.waits = 0 := kz5.w0.2.1
  have hle : es_le x y := by rw [hy, hx1]; exact (es_le_flush x q).trans (es_le_obj _ _ _ _ _ _)
  show ∃ r', Option.bind (m_tooLong r5) (fun y_32 => if y_32.1 = 0 then (if w = 0 then some (-3, y_32.2) else some (y_32.2.length, y_32.2)) else some (-2, y_32.2)) = some (es_ans y, r') ∧ Pq cd mk td r' ∧ RX (es_set y x.1.length (es_snap x q.length sn)) (if y.2.1 = -2 then q else []) r'
  rcases c3 with ⟨hw, z⟩ | ⟨z1, L, z2, z3, z4⟩ | ⟨hw, z⟩
  · rw [r_tooLong0 z.ln z.le hw5, Option.bind_some, if_pos rfl, hw, if_neg n10, if_neg (show ¬ y.2.1 = -2 by rw [z.oc]; decide)]
    have ea : es_ans y = nI y.1.length := by unfold es_ans; rw [if_pos z.oc]
    have es : es_set y x.1.length (es_snap x q.length sn) = y := by
      unfold es_set es_oc
      rw [if_neg (show ¬ y.2.1 = -2 by rw [z.oc]; decide), if_neg (show ¬ y.2.1 = -3 by rw [z.oc]; decide), ← z.oc]
    rw [ea, es]
    exact ⟨r5, by show some (r5.length, r5) = _; rw [z.ln], hq5, z, RW.nil hw5, by decide⟩
  · obtain ⟨g9, t1, t2⟩ := r_tooLong1 z4 z2 z3 hw5
    rw [t1, Option.bind_some, if_neg n10, if_pos z1]
    have ea : es_ans y = -2 := by unfold es_ans; rw [if_neg (by rw [z1]; decide)]; exact z1
    rw [ea]
    refine ⟨_, rfl, ⟨⟨hq5.1.no, hq5.1.so, hq5.1.fi⟩, ⟨hq5.2.ob, hq5.2.o, hq5.2.va, hq5.2.tx, hq5.2.nm⟩⟩, ?_⟩
    exact set_back hx0 hle z1 (r_restore hX e2 (Or.inr kz5) t2)
  · rw [r_tooLong0 z.ln z.le hw5, Option.bind_some, if_pos rfl, hw, if_pos rfl, if_neg (show ¬ y.2.1 = -2 by rw [z.oc]; decide)]
    have ea : es_ans y = -3 := by unfold es_ans; rw [if_neg (by rw [z.oc]; decide)]; exact z.oc
    have es : es_set y x.1.length (es_snap x q.length sn) = (y.1, 0, (fun j => if j < 35 then -1 else y.2.2.1 j), 0) := by
      unfold es_set es_oc es_forget
      rw [if_neg (show ¬ y.2.1 = -2 by rw [z.oc]; decide), if_pos z.oc]
    rw [ea, es]
    refine ⟨r5, rfl, hq5, ⟨rfl, z.le, z.ln, z.st, ⟨fun j hj => ?_, z.gv⟩, ⟨0, rfl, Nat.zero_le _⟩, fun j hj => Or.inl (if_pos hj)⟩, RW.nil hw5, by decide⟩
    show r5.handles (hk j) = (if j < 35 then -1 else y.2.2.1 j)
    rw [if_pos hj]; exact z.hd j hj
