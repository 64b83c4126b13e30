/-! reset, data -/
theorem r_reset {cd : Nat → Option DT} {mk : Nat} {td : Nat → TT} {x : ES} {q : List Int32} {sn : SN} {r : RS} (hq : Pq cd mk td r) (hX : RX x q r) : ∃ r', m_reset r = some ((ga_reset x q sn).1, r') ∧ Pq cd mk td r' ∧ RX (ga_reset x q sn).2.1 (ga_reset x q sn).2.2.1 r' := by
  have hP := stab0 False cd mk td
  have hx0 := hX.ex.oc
  unfold ga_reset m_reset
  obtain ⟨g, e1, e2⟩ := r_remember r
  rw [e1, Option.bind_some]
  have hq1 : Pq cd mk td (rmb r g) := ⟨⟨hq.1.no, hq.1.so, hq.1.fi⟩, ⟨hq.2.ob, hq.2.o, hq.2.va, hq.2.tx, hq.2.nm⟩⟩
  have hE1 : EX 0 x (rmb r g) := ⟨hX.ex.oc, hX.ex.le, hX.ex.ln, hX.ex.st, ⟨hX.ex.rh.hd, hX.ex.rh.gv⟩, hX.ex.hn, hX.ex.la⟩
  have hW1 : RW q (rmb r g) := ⟨hX.rw.wn, hX.rw.wt, hX.rw.q5⟩
  obtain ⟨r2, f1, f2, f3⟩ := r_flush (cd := cd) (mk := mk) (td := td) hq1 hW1 (Or.inl hE1)
  rw [f1, Option.bind_some]
  obtain ⟨x1, hx1⟩ : ∃ x1, x1 = es_flush x q := ⟨_, rfl⟩
  rw [← hx1] at f3 ⊢
  obtain ⟨r3, hr3⟩ : ∃ r3, r3 = r2.s_waits 0 := ⟨_, rfl⟩
  rw [← hr3]
  have hq3 : Pq cd mk td r3 := by
    have := f2.kz.pq hq1
    rw [hr3]; exact ⟨⟨this.1.no, this.1.so, this.1.fi⟩, ⟨this.2.ob, this.2.o, this.2.va, this.2.tx, this.2.nm⟩⟩
  have hE3 : SE x1 r3 := by
    rw [hr3]
    rcases f3 with z | ⟨z1, z2⟩
    · exact Or.inl ⟨z.oc, z.le, z.ln, z.st, ⟨z.rh.hd, z.rh.gv⟩, z.hn, z.la⟩
    · exact Or.inr ⟨z1, z2⟩
  have kz3 : KZ ((rmb r g).s_waits 0) r3 := by
    rw [hr3]
    obtain ⟨a1, a2, a3, a4, a5, a6⟩ := f2.w0
    exact ⟨f2.c0, f2.o0, ⟨a1, rfl, a3, a4, a5, a6⟩, f2.ln⟩
  have k1 : Sim (False, Pq cd mk td) 0 0 (fun x => es_put x 121 1) (m_append 121 1) := (ap1 hP 0 121 1 (w9 := 1) (by decide) rfl (by omega) (Sim.id (False, Pq cd mk td) 0)).congr (fun _ => rfl) (fun r _ => (ob_id _).symm)
  obtain ⟨r4, a4, b4, c4⟩ := k1.st hq3 hE3
  rw [a4, Option.bind_some]
  obtain ⟨g2, e3, e4⟩ := r_noHandles r4
  rw [e3, Option.bind_some]
  obtain ⟨z, hz⟩ : ∃ z, z = es_put x1 121 1 := ⟨_, rfl⟩
  have c4' : SE z r4 := by rw [hz]; exact c4
  obtain ⟨r5, hr5⟩ : ∃ r5, r5 = (r4.s_handles g2).s_given 0 := ⟨_, rfl⟩
  rw [← hz, ← hr5]
  have kz5 : KZ ((rmb r g).s_waits 0) r5 := (kz3.trans b4.1.kz).trans (by rw [hr5]; exact KZ.rfl9 r4)
  have hq5 : Pq cd mk td r5 := by
    have := b4.1.kz.pq hq3
    rw [hr5]; exact ⟨⟨this.1.no, this.1.so, this.1.fi⟩, ⟨this.2.ob, this.2.o, this.2.va, this.2.tx, this.2.nm⟩⟩
  have hw5 : r5.waits = 0 := kz5.w0.2.1
  have hle : es_le x (es_forget z) := by rw [hz, hx1]; exact (es_le_flush x q).trans (es_le_put _ _ _)
  show ∃ r', Option.bind (m_tooLong r5) (fun y_21 => if y_21.1 = 0 then some (y_21.2.length, y_21.2) else some (-2, y_21.2)) = some (es_ans (es_forget z), r') ∧ Pq cd mk td r' ∧ RX (es_set (es_forget z) x.1.length (es_snap x q.length sn)) (if (es_forget z).2.1 = -2 then q else []) r'
  rcases c4' with h | ⟨z1, L, z2, z3, z4⟩
  · have hl5 : r5.length = nI z.1.length := by rw [hr5]; exact h.ln
    have hoc : (es_forget z).2.1 = 0 := h.oc
    rw [r_tooLong0 hl5 h.le hw5, Option.bind_some, if_pos rfl, if_neg (show ¬ (es_forget z).2.1 = -2 by rw [hoc]; decide)]
    have ea : es_ans (es_forget z) = nI z.1.length := by unfold es_ans; rw [if_pos hoc]; rfl
    have es : es_set (es_forget z) x.1.length (es_snap x q.length sn) = (z.1, 0, (fun j => if j < 35 then -1 else z.2.2.1 j), 0) := by
      unfold es_set es_oc
      rw [if_neg (show ¬ (es_forget z).2.1 = -2 by rw [hoc]; decide), if_neg (show ¬ (es_forget z).2.1 = -3 by rw [hoc]; decide)]; rfl
    rw [ea, es]
    refine ⟨r5, by show some (r5.length, r5) = _; rw [hl5], hq5, ⟨rfl, h.le, hl5, by rw [hr5]; exact h.st, ⟨fun j hj => ?_, by rw [hr5]; rfl⟩, ⟨0, rfl, Nat.zero_le _⟩, fun j hj => Or.inl (if_pos hj)⟩, RW.nil hw5, by decide⟩
    show r5.handles (hk j) = (if j < 35 then -1 else z.2.2.1 j)
    rw [if_pos hj, hr5]; exact e4 _ (hk_lt j hj)
  · have hl5 : r5.length = nI L := by rw [hr5]; exact z4
    have hoc : (es_forget z).2.1 = -2 := z1
    obtain ⟨g9, t1, t2⟩ := r_tooLong1 hl5 z2 z3 hw5
    rw [t1, Option.bind_some, if_neg n10, if_pos hoc]
    have ea : es_ans (es_forget z) = -2 := by unfold es_ans; rw [if_neg (by rw [hoc]; decide)]; exact hoc
    rw [ea]
    refine ⟨_, rfl, ⟨⟨hq5.1.no, hq5.1.so, hq5.1.fi⟩, ⟨hq5.2.ob, hq5.2.o, hq5.2.va, hq5.2.tx, hq5.2.nm⟩⟩, ?_⟩
    exact set_back hx0 hle hoc (r_restore hX e2 (Or.inr kz5) t2)
theorem flush_in {x : ES} {q : List Int32} (h0 : x.2.1 = 0) (hl : x.1.length + 2 + q.length ≤ 1400) : (es_flush x q).2.1 = 0 ∧ (es_flush x q).1.length ≤ x.1.length + 2 + q.length := by
  unfold es_flush
  by_cases hq : q = []
  · rw [if_pos hq]; exact ⟨h0, by omega⟩
  · rw [if_neg hq]
    have e := (((EmC.put 119 1).seq (EmC.put (nI q.length).toInt64 1)).seq (EmC.fold q)) x
    have hfl : ∀ t : List Int32, (t.flatMap (fun c => es_bytes c.toInt64 1)).length = t.length := by
      intro t
      induction t with
      | nil => rfl
      | cons a t ih => rw [List.flatMap_cons, List.length_append, ih, es_bytes_len, List.length_cons]; omega
    have e2 := (e.2 h0 (by omega)).1 (by rw [List.length_append, List.length_append, hfl, es_bytes_len, es_bytes_len]; omega)
    rw [show q.foldl (fun x b => es_put x b.toInt64 1) (es_put (es_put x 119 1) (nI q.length).toInt64 1) = (x.1 ++ (es_bytes 119 1 ++ es_bytes (nI q.length).toInt64 1 ++ q.flatMap (fun c => es_bytes c.toInt64 1)), x.2) from e2]
    refine ⟨h0, ?_⟩
    show (x.1 ++ (es_bytes 119 1 ++ es_bytes (nI q.length).toInt64 1 ++ q.flatMap (fun c => es_bytes c.toInt64 1))).length ≤ _
    rw [List.length_append, List.length_append, List.length_append, hfl, es_bytes_len, es_bytes_len]; omega
theorem d60_1 (K : Int32 → Int32 → Int32 → Int64 → Int32 → RS → Option (Int32 × RS)) : ∀ (n : Nat) (a b c : Int32) (d : Int64) (e : Int32) (r : RS), m_data_60' K n a b c d e r = m_data_60 K n a b c d e r := by
  intro n
  induction n with
  | zero => intro a b c d e r; rfl
  | succ n ih => intro a b c d e r; rw [m_data_60', m_data_60]; simp only [ih]
theorem data_60 {cd : Nat → Option DT} {mk : Nat} {td : Nat → TT} {K : Int32 → Int32 → Int32 → Int64 → Int32 → RS → Option (Int32 × RS)} {v : Int64} {w : Nat} (hw8 : w ≤ 8) {a b c : Int32} : ∀ (p n : Nat) (x : ES) (q : List Int32) (r : RS), p ≤ w → p < n → Pq cd mk td r → RX x q r → x.1.length + q.length + p + (if 255 ≤ q.length + p then 2 else 0) ≤ 1400 → ∃ r', m_data_60 K n (nI p - 1) a b v c r = K (-1) a b v c r' ∧ Pq cd mk td r' ∧ RX (es_wait v w p x q).1 (es_wait v w p x q).2 r' := by
  intro p
  induction p with
  | zero =>
    intro n x q r _ hn hq hX _
    obtain ⟨n, rfl⟩ : ∃ m, n = m + 1 := ⟨n - 1, by omega⟩
    refine ⟨r, ?_, hq, hX⟩
    rw [m_data_60, if_pos (by decide)]; rfl
  | succ p ih =>
    intro n x q r hp hn hq hX hroom
    obtain ⟨n, rfl⟩ : ∃ m, n = m + 1 := ⟨n - 1, by omega⟩
    have h5 := hX.q5
    obtain ⟨q', hq'⟩ : ∃ q', q' = q ++ [es_by v w (w - 1 - p)] := ⟨_, rfl⟩
    have hl' : q'.length = q.length + 1 := by rw [hq', List.length_append, List.length_singleton]
    rw [nI_pred, m_data_60, if_neg (nI_pos (by omega)), wr_ok hX.rw.wn (show q.length < 256 by omega) (by decide), Option.bind_some, by_eq v p (by omega), nI_m1]
    have eby : (((v.toUInt64 >>> ((nI (8 * p)).toInt64.toUInt64 &&& Int64.toUInt64 63)).toInt64).toInt32.toInt8.toInt32) = es_by v w (w - 1 - p) := by unfold es_by; rw [show w - 1 - (w - 1 - p) = p by omega]
    rw [eby]
    obtain ⟨r1, hr1⟩ : ∃ r1, r1 = (r.s_waiting (upd r.waiting q.length (es_by v w (w - 1 - p) &&& 255))).s_waits (r.waits + 1) := ⟨_, rfl⟩
    rw [← hr1]
    have hq1 : Pq cd mk td r1 := by rw [hr1]; exact ⟨⟨hq.1.no, hq.1.so, hq.1.fi⟩, ⟨hq.2.ob, hq.2.o, hq.2.va, hq.2.tx, hq.2.nm⟩⟩
    have hE1 : EX 0 x r1 := by rw [hr1]; exact ⟨hX.ex.oc, hX.ex.le, hX.ex.ln, hX.ex.st, ⟨hX.ex.rh.hd, hX.ex.rh.gv⟩, hX.ex.hn, hX.ex.la⟩
    have hW1 : RW q' r1 := by
      rw [hr1]
      refine ⟨?_, fun i hi => ?_, by omega⟩
      · show r.waits + 1 = _; rw [hX.rw.wn, nI_1, hl']
      · show upd r.waiting q.length (es_by v w (w - 1 - p) &&& 255) i = q'.getD i 0 &&& 255
        rw [hl'] at hi
        rw [hq']
        by_cases hi2 : i < q.length
        · rw [pk_un (by omega), es_getl hi2]; exact hX.rw.wt i hi2
        · have : i = q.length := by omega
          subst this
          rw [pk_us, es_getr (Nat.le_refl _), Nat.sub_self]; rfl
    have hws : es_wait v w (p + 1) x q = if q'.length = 255 then es_wait v w p (es_flush x q') [] else es_wait v w p x q' := by rw [hq']; rfl
    have hwc : (r.waits + 1 = 255) ↔ q'.length = 255 := by
      rw [hX.rw.wn, nI_1, hl']
      exact nI_eq (b := 255) (by omega) (by decide)
    by_cases h255 : q'.length = 255
    · rw [if_pos (hwc.mpr h255)]
      rw [if_pos (show 255 ≤ q.length + (p + 1) by omega)] at hroom
      obtain ⟨r2, f1, f2, f3⟩ := r_flush (cd := cd) (mk := mk) (td := td) hq1 hW1 (Or.inl hE1)
      rw [f1, Option.bind_some]
      obtain ⟨i1, i2⟩ := flush_in (q := q') hX.ex.oc (by omega)
      have hE2 : EX 0 (es_flush x q') r2 := by
        rcases f3 with z | ⟨z, -⟩
        · exact z
        · rw [i1] at z; exact absurd z (by decide)
      have hq2 : Pq cd mk td (r2.s_waits 0) := by
        have := f2.kz.pq hq1
        exact ⟨⟨this.1.no, this.1.so, this.1.fi⟩, ⟨this.2.ob, this.2.o, this.2.va, this.2.tx, this.2.nm⟩⟩
      obtain ⟨r', a1, a2, a3⟩ := ih n (es_flush x q') [] (r2.s_waits 0) (by omega) (by omega) hq2 ⟨⟨hE2.oc, hE2.le, hE2.ln, hE2.st, ⟨hE2.rh.hd, hE2.rh.gv⟩, hE2.hn, hE2.la⟩, RW.nil rfl, by decide⟩ (by
        rw [if_neg (show ¬ 255 ≤ ([] : List Int32).length + p by show ¬ 255 ≤ 0 + p; omega)]
        show (es_flush x q').1.length + 0 + p + 0 ≤ 1400
        omega)
      refine ⟨r', a1, a2, ?_⟩
      rw [hws, if_pos h255]; exact a3
    · rw [if_neg (fun z => h255 (hwc.mp z))]
      obtain ⟨r', a1, a2, a3⟩ := ih n x q' r1 (by omega) (by omega) hq1 ⟨hE1, hW1, by omega⟩ (by
        rw [hl']
        rw [show q.length + 1 + p = q.length + (p + 1) by omega]
        omega)
      refine ⟨r', a1, a2, ?_⟩
      rw [hws, if_neg h255]; exact a3
theorem r_data {cd : Nat → Option DT} {mk : Nat} {td : Nat → TT} {x : ES} {q : List Int32} {sn : SN} {r : RS} (hq : Pq cd mk td r) (hX : RX x q r) (v : Int64) (k : Int32) : ∃ r', m_data v k r = some ((ga_data x q sn v k).1, r') ∧ Pq cd mk td r' ∧ RX (ga_data x q sn v k).2.1 (ga_data x q sn v k).2.2.1 r' := by
  have h5 := hX.q5
  have hle := hX.ex.le
  unfold ga_data m_data
  by_cases h1 : k < 1
  · rw [if_pos h1, if_pos (Or.inl h1)]; exact ⟨r, rfl, hq, hX⟩
  rw [if_neg h1]
  by_cases h8 : k ≤ 8
  · rw [if_pos h8, if_neg (show ¬ (k < 1 ∨ 8 < k) from fun z => z.elim h1 (fun z => Int32.not_lt.mpr h8 z))]
    have hk0 : ¬ k < 0 := fun z => h1 (Int32.lt_trans z (by decide))
    obtain ⟨n, hn, e, ec⟩ := ix_i (x := k) (n := 9) (by decide) hk0 (fun z => absurd (Int32.le_trans z h8) (by decide))
    rw [ec, hX.rw.wn, hX.ex.ln, e, nI_add, nI_add, Int32.add_zero]
    have e255 : (nI (q.length + n) < 255) ↔ q.length + n < 255 := nI_ltI (b := 255) (by omega) (by decide)
    by_cases hr : 255 ≤ q.length + n
    · rw [if_neg (fun z => by have := e255.mp z; omega), if_pos hr]
      have e14 : (nI (x.1.length + (q.length + n)) + 2 ≤ 1400) ↔ x.1.length + (q.length + n) + 2 ≤ 1400 := by
        rw [show (2 : Int32) = nI 2 from rfl, nI_add]; exact nI_leI (b := 1400) (by omega) (by decide)
      by_cases hf : x.1.length + q.length + n + 2 ≤ 1400
      · rw [if_pos (e14.mpr (by omega)), if_pos hf, d60_1]
        obtain ⟨r', a1, a2, a3⟩ := data_60 (cd := cd) (mk := mk) (td := td) (K := fun z6_24 z5_24 z4_24 z1_24 z3_24 r_38 => some (r_38.waits, r_38)) (v := v) (w := n) (by omega) (a := nI (x.1.length + (q.length + n)) + 2) (b := nI (q.length + n)) (c := nI n) n 60 x q r (Nat.le_refl _) (by omega) hq hX (by rw [if_pos hr]; omega)
        rw [a1]
        exact ⟨r', by show some (r'.waits, r') = _; rw [a3.rw.wn], a2, a3⟩
      · rw [if_neg (fun z => hf (by have := e14.mp z; omega)), if_neg hf]
        exact ⟨r, rfl, hq, hX⟩
    · rw [if_pos (e255.mpr (by omega)), if_neg hr]
      have e14 : (nI (x.1.length + (q.length + n)) ≤ 1400) ↔ x.1.length + (q.length + n) ≤ 1400 := nI_leI (b := 1400) (by omega) (by decide)
      by_cases hf : x.1.length + q.length + n + 0 ≤ 1400
      · rw [if_pos (e14.mpr (by omega)), if_pos hf]
        obtain ⟨r', a1, a2, a3⟩ := data_60 (cd := cd) (mk := mk) (td := td) (K := fun z6_6 z5_6 z4_6 z1_6 z3_6 r_20 => some (r_20.waits, r_20)) (v := v) (w := n) (by omega) (a := nI (x.1.length + (q.length + n))) (b := nI (q.length + n)) (c := nI n) n 60 x q r (Nat.le_refl _) (by omega) hq hX (by rw [if_neg hr]; omega)
        rw [a1]
        exact ⟨r', by show some (r'.waits, r') = _; rw [a3.rw.wn], a2, a3⟩
      · rw [if_neg (fun z => hf (by have := e14.mp z; omega)), if_neg hf]
        exact ⟨r, rfl, hq, hX⟩
  · rw [if_neg h8, if_pos (Or.inr (Int32.not_le.mp h8))]; exact ⟨r, rfl, hq, hX⟩
