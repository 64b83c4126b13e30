/-! set, and the making of an object of a class -/
theorem tyv {cd : Nat → Option DT} (hD : GD cd) {d : DT} {k : Nat} (hd : cd k = some d) : ∀ n, n ≤ dd_cn d → ∀ s, ∃ t, t < 8 ∧ ga_sty cd d n s = nI t := by
  intro n
  induction n with
  | zero => intro _ s; exact ⟨0, by decide, rfl⟩
  | succ n ih =>
    intro hn s
    obtain ⟨c, e, hc6, hc, he⟩ := (hD.wd k d hd).2.2.1 n (by omega)
    have ec : (dd_cf d n).toNatClampNeg = c := by rw [hc]; exact nI_clamp (by omega)
    have es : ga_sty cd d (n + 1) = va_cpy (dd_ty e) (ga_sty cd d n) 0 (ga_sum cd d n) (dd_fn e) := by
      show (match cd (dd_cf d n).toNatClampNeg with | none => ga_sty cd d n | some d' => va_cpy (dd_ty d') (ga_sty cd d n) 0 (ga_sum cd d n) (dd_fn d')) = _
      rw [ec, he]
    obtain ⟨-, -, -, w4, -, -, -, w8⟩ := hD.wd c e he
    rw [es]
    unfold va_cpy
    by_cases h : ga_sum cd d n ≤ s ∧ s < ga_sum cd d n + dd_fn e
    · rw [if_pos h]; exact w8 _ (by omega)
    · rw [if_neg h]; exact ih (by omega) s
theorem i_56 : ∀ t, t < 8 → ((nI t ≤ 5 ∧ nI t < 6) ∨ (¬ nI t ≤ 5 ∧ ¬ nI t < 6 ∧ (nI t = 6 ∨ nI t = 7))) := by decide +kernel
theorem lg_lt {a b : Int64} : lg_cmp a b < 0 ↔ a < b := by
  unfold lg_cmp
  by_cases h : a > b
  · rw [if_pos h]
    exact ⟨fun z => absurd z (by decide), fun z => absurd (Int64.lt_trans h z) (Int64.lt_irrefl)⟩
  · rw [if_neg h]
    by_cases h2 : a = b
    · rw [if_pos h2]
      exact ⟨fun z => absurd z (by decide), fun z => by rw [h2] at z; exact absurd z Int64.lt_irrefl⟩
    · rw [if_neg h2]
      exact ⟨fun _ => Int64.lt_of_le_of_ne (Int64.not_lt.mp h) h2, fun _ => by decide⟩
theorem l_m1 {v : Int64} (h1 : v < 0) (h2 : ¬ v < -1) : v = -1 := by
  apply Int64.toInt_inj.mp
  have a := Int64.lt_iff_toInt_lt.mp h1
  have b := mt Int64.lt_iff_toInt_lt.mpr h2
  have e0 : (0 : Int64).toInt = 0 := by decide
  have e1 : (-1 : Int64).toInt = -1 := by decide
  rw [e0] at a; rw [e1] at b ⊢; omega
/-- held: what a slot of references takes -/
theorem held_7 {mk : Nat} {td : Nat → TT} {v : Int64} (hm : mk ≤ 12) : ga_held mk td v 7 = 0 ↔ (v < -1 ∨ ¬ v < lN mk) := by
  unfold ga_held
  by_cases h0 : v = -1
  · rw [if_pos h0]
    refine ⟨fun z => absurd z n10, fun z => ?_⟩
    rcases z with z | z
    · rw [h0] at z; exact absurd z (by decide)
    · exact absurd (by rw [h0]; exact Int64.lt_iff_toInt_lt.mpr (by rw [lN_toInt (by omega), show (-1 : Int64).toInt = -1 by decide]; omega)) z
  rw [if_neg h0]
  by_cases h1 : v < 0
  · rw [if_pos h1]
    refine ⟨fun _ => Or.inl ?_, fun _ => rfl⟩
    by_cases z : v < -1
    · exact z
    · exact absurd (l_m1 h1 z) h0
  rw [if_neg h1]
  by_cases h2 : lN mk ≤ v
  · rw [if_pos h2]; exact ⟨fun _ => Or.inr (Int64.not_lt.mpr h2), fun _ => rfl⟩
  rw [if_neg h2, if_pos rfl]
  refine ⟨fun z => absurd z n10, fun z => ?_⟩
  rcases z with z | z
  · exact absurd (Int64.lt_trans z (by decide)) h1
  · exact absurd (Int64.not_le.mp h2) z
theorem held_6 {mk : Nat} {td : Nat → TT} {v : Int64} (hm : mk ≤ 12) : ga_held mk td v 6 = 0 ↔ (v < -1 ∨ ¬ v < lN mk ∨ (¬ v < 0 ∧ ¬ tt_so (td v.toInt32.toNatClampNeg) = 2)) := by
  unfold ga_held
  by_cases h0 : v = -1
  · rw [if_pos h0]
    refine ⟨fun z => absurd z n10, fun z => ?_⟩
    rcases z with z | z | ⟨z, -⟩
    · rw [h0] at z; exact absurd z (by decide)
    · exact absurd (by rw [h0]; exact Int64.lt_iff_toInt_lt.mpr (by rw [lN_toInt (by omega), show (-1 : Int64).toInt = -1 by decide]; omega)) z
    · rw [h0] at z; exact absurd (by decide) z
  rw [if_neg h0]
  by_cases h1 : v < 0
  · rw [if_pos h1]
    refine ⟨fun _ => Or.inl ?_, fun _ => rfl⟩
    by_cases z : v < -1
    · exact z
    · exact absurd (l_m1 h1 z) h0
  rw [if_neg h1]
  by_cases h2 : lN mk ≤ v
  · rw [if_pos h2]; exact ⟨fun _ => Or.inr (Or.inl (Int64.not_lt.mpr h2)), fun _ => rfl⟩
  rw [if_neg h2, if_neg (show ¬ (6 : Int32) = 7 by decide)]
  by_cases h3 : tt_so (td v.toInt32.toNatClampNeg) = 2
  · rw [if_pos h3]
    refine ⟨fun z => absurd z n10, fun z => ?_⟩
    rcases z with z | z | ⟨-, z⟩
    · exact absurd (Int64.lt_trans z (by decide)) h1
    · exact absurd (Int64.not_le.mp h2) z
    · exact absurd h3 z
  · rw [if_neg h3]; exact ⟨fun _ => Or.inr (Or.inr ⟨h1, h3⟩), fun _ => rfl⟩
theorem RO.sva {mk : Nat} {td : Nat → TT} {r : RS} (h : RO mk td r) (h24 : ∀ i, i < mk → tt_n (td i) ≤ 24 ∧ (tt_so (td i) = 1 → (tt_tx (td i)).length ≤ 24)) {j s : Nat} (hj : j < mk) (hs : s < 24) (h1 : ¬ tt_so (td j) = 1) (v : Int64) : RO mk (va_up td j (tt_sva (td j) s v)) (r.s_value (vp_updL r.value (24 * j + s) v)) := by
  refine h.td rfl (fun i hi => ⟨rfl, rfl, rfl, rfl⟩) (fun i hi => ?_)
  obtain ⟨a, b, c, d, f⟩ := h.o i hi
  obtain ⟨m1, m2⟩ := h24 i hi
  by_cases hij : i = j
  · subst hij; rw [va_up_self]
    refine ⟨rfl, rfl, rfl, rfl, c, d, fun q hq1 hq2 => ?_, fun q hq1 => absurd hq1 h1⟩
    show vp_updL r.value (24 * i + s) v (24 * i + q) = vp_updL (tt_va (td i)) s v q
    by_cases hqs : q = s
    · rw [hqs, uL_s, uL_s]
    · rw [uL_n (by omega), uL_n hqs]; exact h.va i q hi hq1 hq2
  · rw [va_up_ne _ _ hij]
    refine ⟨rfl, rfl, rfl, rfl, c, d, fun q hq1 hq2 => ?_, fun q hq1 hq2 => ?_⟩
    · show vp_updL r.value (24 * j + s) v (24 * i + q) = _
      rw [uL_n (by omega)]; exact h.va i q hi hq1 hq2
    · show vp_updL r.value (24 * j + s) v (24 * i + q) = _
      have := m2 hq1
      exact uL_n (by omega)
theorem nI_lN {mk : Nat} (hm : mk ≤ 12) {x : Int32} (h : x = nI mk) : x.toInt64 = lN mk := by rw [h]; exact nI_l (by omega)
theorem slot_in {cd : Nat → Option DT} {d : DT} (hch : ∀ q, q < dd_cn d → ∃ i di, i < 6 ∧ dd_cf d q = nI i ∧ cd i = some di) : ∀ n, n ≤ dd_cn d → ∀ s, s < ga_sum cd d n → ∃ j c e f, j < n ∧ c < 6 ∧ dd_cf d j = nI c ∧ cd c = some e ∧ f < dd_fn e ∧ s = ga_sum cd d j + f := by
  intro n
  induction n with
  | zero => intro _ s hs; exact absurd hs (Nat.not_lt_zero _)
  | succ n ih =>
    intro hn s hs
    obtain ⟨c, e, c6, hc, he⟩ := hch n (by omega)
    have h1 := sum_s c6 hc he
    by_cases h : s < ga_sum cd d n
    · obtain ⟨j, c', e', f, a1, a2⟩ := ih (by omega) s h
      exact ⟨j, c', e', f, by omega, a2⟩
    · exact ⟨n, c, e, s - ga_sum cd d n, by omega, c6, hc, he, by omega, by omega⟩
theorem slot_ty {cd : Nat → Option DT} {mk : Nat} {td : Nat → TT} (hG : GI cd mk td) {i k : Nat} (hi : i < mk) (h0 : tt_so (td i) = 0) {d : DT} (hk : tt_ow (td i) = nI k) (hd : cd k = some d) {s : Nat} (hs : s < ga_sum cd d (dd_cn d)) : tt_ty (td i) s = ga_sty cd d (dd_cn d) s := by
  have w3 := (hG.gd.wd k d hd).2.2.1
  obtain ⟨j, c, e, f, a1, c6, a2, a3, a4, rfl⟩ := slot_in w3 (dd_cn d) (Nat.le_refl _) s hs
  rw [sty_at w3 (dd_cn d) (Nat.le_refl _) j c e f a1 a2 c6 a3 a4]
  exact (hG.ty i hi).2.2.2 h0 k d hk hd j c e f a1 a2 c6 a3 a4
theorem r_set {cd : Nat → Option DT} {mk : Nat} {td : Nat → TT} {r : RS} (hG : GI cd mk td) (hC : RC cd r) (h : RO mk td r) (o k : Int32) (v : Int64) : ∃ r', m_set o k v r = some ((ga_set mk td o k v).1, r') ∧ RO mk (ga_set mk td o k v).2 r' ∧ RK r r' := by
  have hm := hG.mk12
  have hlN : r.objects.toInt64 = lN mk := nI_lN hm h.ob
  unfold ga_set m_set
  rcases made_out (o := o) h.ob (by omega) with ⟨h0, h1⟩ | ⟨j, hj, e, ec, h0, h1⟩
  · rw [h1, Option.bind_some, if_neg n10, if_pos h0]; exact ⟨r, rfl, h, RK.rfl9 r⟩
  obtain ⟨o1, o2, o3, o4, o5⟩ := h.o j hj
  obtain ⟨y1, y2, y3, y4⟩ := hG.ty j hj
  rw [h1, Option.bind_some, if_pos rfl, if_neg h0, ec, rd_ok e (show j < 20 by omega) (by decide), Option.bind_some]
  show ∃ r', (if r.sort j = 1 then _ else Option.bind (rd r.size 20 o) (fun v_12 => Option.bind (m_out k v_12 r) _)) = _ ∧ _
  rw [o1]
  by_cases s1 : tt_so (td j) = 1
  · have hn0 := (hG.tx j hj).2.2 (Or.inl s1)
    have : k < 0 ∨ nI (tt_n (td j)) ≤ k := by
      by_cases z : k < 0
      · exact Or.inl z
      · rw [hn0]; exact Or.inr (Int32.not_lt.mp z)
    rw [if_pos s1, if_pos this]; exact ⟨r, rfl, h, RK.rfl9 r⟩
  rw [if_neg s1, rd_ok e (show j < 20 by omega) (by decide), Option.bind_some]
  show ∃ r', Option.bind (m_out k (r.size j) r) _ = _ ∧ _
  rw [o5, if_neg s1]
  by_cases hk : k < 0 ∨ nI (tt_n (td j)) ≤ k
  · rw [if_pos hk, m_out_1 (hk.imp (fun z => z) (fun z => Int32.not_lt.mpr z)), Option.bind_some, if_neg n10]
    exact ⟨r, rfl, h, RK.rfl9 r⟩
  have hk0 : ¬ k < 0 := fun z => hk (Or.inl z)
  have hk1 : ¬ nI (tt_n (td j)) ≤ k := fun z => hk (Or.inr z)
  obtain ⟨s, hs, es, esc⟩ := ix_i (x := k) (n := tt_n (td j)) (by omega) hk0 hk1
  have e24 : (24 * o) + k = nI (24 * j + s) := i24 e es
  have hw := fun v => wrl_ok (f := r.value) (v := v) e24 (show 24 * j + s < 480 by omega) (by decide)
  have hput := RO.sva h hG.n24 hj (show s < 24 by omega) s1 v
  have hK : RK r (r.s_value (vp_updL r.value (24 * j + s) v)) := ⟨⟨rfl, rfl, rfl, rfl, rfl, rfl, rfl, rfl⟩, ⟨rfl, rfl, rfl, rfl, rfl, rfl⟩⟩
  rw [if_neg hk, m_out_0 hk0 (Int32.not_le.mp hk1), Option.bind_some, if_pos rfl, rd_ok e (show j < 20 by omega) (by decide), Option.bind_some, esc]
  show ∃ r', (if r.sort j = 2 then Option.bind (wrl r.value 480 (24 * o + k) v) _ else Option.bind (some (r.sort j)) _) = _ ∧ _
  rw [o1, hw, Option.bind_some]
  by_cases s2 : tt_so (td j) = 2
  · rw [if_pos s2, if_neg (show ¬ (¬ tt_ty (td j) s < 6 ∧ ga_held mk td v (tt_ty (td j) s) = 0) from fun z => z.1 (by rw [(y1 s2).2 s hs]; decide))]
    exact ⟨_, rfl, hput, hK⟩
  rw [if_neg s2, Option.bind_some]
  show ∃ r', (if tt_so (td j) = 3 then (if lg_cmp v (-1) < 0 then _ else if lg_cmp v r.objects.toInt64 < 0 then _ else _) else Option.bind (m_slotType o k r) _) = _ ∧ _
  by_cases s3 : tt_so (td j) = 3
  · have hty := (y2 s3).2 s hs
    rw [if_pos s3, hty, hlN]
    by_cases hb : ga_held mk td v 7 = 0
    · rw [if_pos (show ¬ (7 : Int32) < 6 ∧ ga_held mk td v 7 = 0 from ⟨by decide, hb⟩)]
      refine ⟨r, ?_, h, RK.rfl9 r⟩
      by_cases b1 : v < -1
      · rw [if_pos (lg_lt.mpr b1)]
      · rw [if_neg (fun z => b1 (lg_lt.mp z))]
        rcases (held_7 hm).mp hb with z | z
        · exact absurd z b1
        · rw [if_neg (fun z2 => z (lg_lt.mp z2))]
    · have hb2 : ¬ (v < -1 ∨ ¬ v < lN mk) := fun z => hb ((held_7 hm).mpr z)
      have hb3 : v < lN mk := by
        by_cases z : v < lN mk
        · exact z
        · exact absurd (Or.inr z) hb2
      rw [if_neg (show ¬ (¬ (7 : Int32) < 6 ∧ ga_held mk td v 7 = 0) from fun z => hb z.2), if_neg (fun z => hb2 (Or.inl (lg_lt.mp z))), if_pos (lg_lt.mpr hb3)]
      exact ⟨_, rfl, hput, hK⟩
  rw [if_neg s3]
  have s4 : ¬ tt_so (td j) = 4 := fun z => by have := (hG.tx j hj).2.2 (Or.inr z); omega
  have s0 : tt_so (td j) = 0 := by
    rcases (hG.wt j hj).2.1 with z | z | z | z | z
    · exact z
    · exact absurd z s1
    · exact absurd z s2
    · exact absurd z s3
    · exact absurd z s4
  obtain ⟨c, d, c6, hcw, hcd⟩ := (hG.wt j hj).2.2.1 (Or.inl s0)
  obtain ⟨sn, -⟩ := (hG.wt j hj).2.2.2.2 s0 c d hcw hcd
  have hcl : r.classOf j = nI c := (o2 (Or.inl s0)).trans hcw
  -- the slot's type, here and there
  have hst := r_slotType hG.gd hC hcd (o := j) (s := s) (by omega) hcl (by omega)
  have hty : tt_ty (td j) s = ga_sty cd d (dd_cn d) s := slot_ty hG hj s0 hcw hcd (by omega)
  rw [e, es, hst, Option.bind_some, ← e, ← es, ← hty]
  show ∃ r', (if tt_ty (td j) s ≤ 5 then Option.bind (wrl r.value 480 (24 * o + k) v) _ else (if lg_cmp v (-1) < 0 then _ else if lg_cmp v r.objects.toInt64 < 0 then (if tt_ty (td j) s = 6 then (if lg_cmp v 0 < 0 then Option.bind (wrl r.value 480 (24 * o + k) v) _ else Option.bind (rd r.sort 20 v.toInt32) (fun v_45 => if v_45 = 2 then Option.bind (wrl r.value 480 (24 * o + k) v) _ else _)) else Option.bind (wrl r.value 480 (24 * o + k) v) _) else _)) = _ ∧ _
  rw [hlN]
  simp only [hw, Option.bind_some]
  obtain ⟨t, ht, et⟩ := tyv hG.gd hcd (dd_cn d) (Nat.le_refl _) s
  rw [hty, et]
  rcases i_56 t ht with ⟨t1, t2⟩ | ⟨t1, t2, t3⟩
  · rw [if_pos t1, if_neg (show ¬ (¬ nI t < 6 ∧ ga_held mk td v (nI t) = 0) from fun z => z.1 t2)]
    exact ⟨_, rfl, hput, hK⟩
  rw [if_neg t1]
  by_cases b1 : v < -1
  · have hb : ga_held mk td v (nI t) = 0 := by
      rcases t3 with z | z <;> rw [z]
      · exact (held_6 hm).mpr (Or.inl b1)
      · exact (held_7 hm).mpr (Or.inl b1)
    rw [if_pos (lg_lt.mpr b1), if_pos (show ¬ nI t < 6 ∧ ga_held mk td v (nI t) = 0 from ⟨t2, hb⟩)]
    exact ⟨r, rfl, h, RK.rfl9 r⟩
  rw [if_neg (fun z => b1 (lg_lt.mp z))]
  by_cases b2 : v < lN mk
  · rw [if_pos (lg_lt.mpr b2)]
    rcases t3 with z | z
    · rw [z, if_pos rfl]
      by_cases b3 : v < 0
      · rw [if_pos (lg_lt.mpr b3), if_neg (show ¬ (¬ (6 : Int32) < 6 ∧ ga_held mk td v 6 = 0) from fun z => by
          rcases (held_6 hm).mp z.2 with y | y | ⟨y, -⟩
          · exact b1 y
          · exact y b2
          · exact y b3)]
        exact ⟨_, rfl, hput, hK⟩
      · obtain ⟨i, hi, ei⟩ := ga_lix (by omega) b3 b2
        have e32 : v.toInt32 = nI i := by rw [ei]; exact lN_i i
        have e32c : v.toInt32.toNatClampNeg = i := by rw [e32]; exact nI_clamp (by omega)
        rw [if_neg (fun z => b3 (lg_lt.mp z)), rd_ok e32 (show i < 20 by omega) (by decide), Option.bind_some, (h.o i hi).1]
        by_cases b4 : tt_so (td i) = 2
        · rw [if_pos b4, if_neg (show ¬ (¬ (6 : Int32) < 6 ∧ ga_held mk td v 6 = 0) from fun z => by
            rcases (held_6 hm).mp z.2 with y | y | ⟨-, y⟩
            · exact b1 y
            · exact y b2
            · rw [e32c] at y; exact y b4)]
          exact ⟨_, rfl, hput, hK⟩
        · rw [if_neg b4, if_pos (show ¬ (6 : Int32) < 6 ∧ ga_held mk td v 6 = 0 from ⟨by decide, (held_6 hm).mpr (Or.inr (Or.inr ⟨b3, by rw [e32c]; exact b4⟩))⟩)]
          exact ⟨r, rfl, h, RK.rfl9 r⟩
    · rw [z, if_neg (show ¬ (7 : Int32) = 6 by decide), if_neg (show ¬ (¬ (7 : Int32) < 6 ∧ ga_held mk td v 7 = 0) from fun z => by
          rcases (held_7 hm).mp z.2 with y | y
          · exact b1 y
          · exact y b2)]
      exact ⟨_, rfl, hput, hK⟩
  · have hb : ga_held mk td v (nI t) = 0 := by
      rcases t3 with z | z <;> rw [z]
      · exact (held_6 hm).mpr (Or.inr (Or.inl b2))
      · exact (held_7 hm).mpr (Or.inr b2)
    rw [if_neg (fun z => b2 (lg_lt.mp z)), if_pos (show ¬ nI t < 6 ∧ ga_held mk td v (nI t) = 0 from ⟨t2, hb⟩)]
    exact ⟨r, rfl, h, RK.rfl9 r⟩
