/-! array, constant, set, define -/
theorem nm2 : ¬ (0 : Int32) ≤ -2 := by decide
theorem mk12f {mk : Nat} (hm : mk ≤ 12) (h : ¬ 12 ≤ nI mk) : mk < 12 := by
  by_cases h9 : mk < 12
  · exact h9
  · exact absurd (nI_le (a := 12) (by omega) (by omega)) h
theorem array_45 {K : Int32 → Int32 → Int32 → Int32 → RS → Option (Int32 × RS)} {l1 : Int32} (h1 : ¬ l1 = 0) {mk m : Nat} (hmk : mk < 12) (hm : m ≤ 4) : ∀ (p n : Nat) (r : RS), p ≤ m → p < n → ∃ g, m_array_45''' K n (nI (m - p)) (nI mk) l1 (nI m) r = K (nI m) (nI mk) l1 (nI m) (r.s_value g) ∧ (∀ i, i < 24 * mk + (m - p) → g i = r.value i) ∧ ∀ i, 24 * mk + (m - p) ≤ i → i < 24 * mk + m → g i = -1 := by
  intro p
  induction p with
  | zero =>
    intro n r _ hn
    obtain ⟨n, rfl⟩ : ∃ m, n = m + 1 := ⟨n - 1, by omega⟩
    refine ⟨r.value, ?_, fun _ _ => rfl, fun i h1 h2 => by omega⟩
    rw [m_array_45''', if_neg h1, Nat.sub_zero, if_pos (Int32.le_refl _), RS.self_value]
  | succ p ih =>
    intro n r hp hn
    obtain ⟨n, rfl⟩ : ∃ m, n = m + 1 := ⟨n - 1, by omega⟩
    rw [m_array_45''', if_neg h1, if_neg (nI_ge (by omega) (by omega)), wrl_ok (i24 rfl rfl) (show 24 * mk + (m - (p + 1)) < 480 by omega) (by decide), Option.bind_some, nI_1, show m - (p + 1) + 1 = m - p by omega]
    obtain ⟨g, a, b, c⟩ := ih n (r.s_value (vp_updL r.value (24 * mk + (m - (p + 1))) (-1))) (by omega) (by omega)
    refine ⟨g, ?_, fun i hi => ?_, fun i h1 h2 => ?_⟩
    · rw [a, RS.two_value]
    · rw [b i (by omega)]; exact uL_n (by omega)
    · by_cases hi : i = 24 * mk + (m - (p + 1))
      · rw [b i (by omega), hi]; exact uL_s
      · exact c i (by omega) h2
theorem r_array {cd : Nat → Option DT} {mk : Nat} {td : Nat → TT} {r : RS} (hG : GI cd mk td) (h : RO mk td r) (rf len : Int32) : ∃ r', m_array rf len r = some ((ga_array mk td rf len).1, r') ∧ RO (ga_array mk td rf len).2.1 (ga_array mk td rf len).2.2 r' ∧ RK r r' := by
  have hm := hG.mk12
  unfold ga_array m_array
  by_cases l0 : len < 0
  · rw [if_pos l0, if_pos (Or.inl l0)]; exact ⟨r, rfl, h, RK.rfl9 r⟩
  rw [if_neg l0]
  by_cases hr : rf = 0
  · simp only [if_pos hr]
    by_cases l6 : len ≤ 6
    · rw [if_pos l6, if_neg (show ¬ (len < 0 ∨ ¬ len ≤ 6) from fun z => z.elim l0 (fun z => z l6))]
      obtain ⟨n, hn, e, ec⟩ := ix_i (x := len) (n := 7) (by decide) l0 (fun z => absurd (Int32.le_trans z l6) (by decide))
      by_cases hf : 12 ≤ nI mk
      · rw [if_pos hf, begin_full h.ob hm hf, Option.bind_some, if_neg nm2]; exact ⟨r, rfl, h, RK.rfl9 r⟩
      rw [if_neg hf]
      obtain ⟨g, a, b, c⟩ := begin_ok h.ob (mk12f hm hf) 2 len
      rw [a, Option.bind_some, if_pos (nI_pos' (by omega)), m_array_45, if_pos hr]
      refine ⟨_, rfl, ?_, ⟨rfl, rfl, rfl, rfl, rfl, rfl, rfl, rfl⟩, ⟨rfl, rfl, rfl, rfl, rfl, rfl⟩⟩
      rw [ec]
      refine h.push hG.n24 rfl (fun i hi => ⟨pk_un (by omega), rfl, pk_un (by omega), pk_un (by omega), pk_un (by omega), rfl, fun q hq => b _ (by omega)⟩) pk_us (fun z => z.elim (fun z => absurd (show (2 : Int32) = 0 from z) (by decide)) (fun z => absurd (show (2 : Int32) = 4 from z) (by decide))) pk_us pk_us ?_ (fun q _ hq => ?_) (fun q z => absurd (show (2 : Int32) = 1 from z) (by decide)) (fun z => absurd (show (2 : Int32) = 4 from z) (by decide))
      · show upd r.size mk len mk = nI n; rw [pk_us]; exact e
      · show g (24 * mk + q) = tt_v0 (fun j => if j < n then 2 else 0) n q
        have hq2 : q < n := hq
        rw [c _ (by omega) (by omega)]
        unfold tt_v0
        rw [if_neg (show ¬ (q < n ∧ ¬ (if q < n then (2 : Int32) else 0) < 6) from fun z => z.2 (by rw [if_pos hq2]; decide))]
    · rw [if_neg l6, if_pos (show len < 0 ∨ ¬ len ≤ 6 from Or.inr l6)]; exact ⟨r, rfl, h, RK.rfl9 r⟩
  · simp only [if_neg hr]
    by_cases l4 : len ≤ 4
    · rw [if_pos l4, if_neg (show ¬ (len < 0 ∨ ¬ len ≤ 4) from fun z => z.elim l0 (fun z => z l4))]
      obtain ⟨n, hn, e, ec⟩ := ix_i (x := len) (n := 5) (by decide) l0 (fun z => absurd (Int32.le_trans z l4) (by decide))
      by_cases hf : 12 ≤ nI mk
      · rw [if_pos hf, begin_full h.ob hm hf, Option.bind_some, if_neg nm2]; exact ⟨r, rfl, h, RK.rfl9 r⟩
      rw [if_neg hf]
      have hmk := mk12f hm hf
      obtain ⟨g, a, b, c⟩ := begin_ok h.ob hmk 3 len
      rw [a, Option.bind_some, if_pos (nI_pos' (by omega))]
      obtain ⟨g2, a2, b2, c2⟩ := array_45 (K := fun z4_58 z3_58 z1_58 z2_58 r_65 => some (z3_58, r_65)) hr hmk (show n ≤ 4 by omega) n 60 (bg r mk 3 len g) (Nat.le_refl _) (by omega)
      rw [Nat.sub_self, ← e, show nI 0 = 0 from rfl] at a2
      rw [Nat.sub_self] at b2 c2
      show ∃ r', m_array_45''' (fun z4_58 z3_58 z1_58 z2_58 r_65 => some (z3_58, r_65)) 60 0 (nI mk) rf len (bg r mk 3 len g) = some (_, r') ∧ _
      rw [a2]
      refine ⟨_, rfl, ?_, ⟨rfl, rfl, rfl, rfl, rfl, rfl, rfl, rfl⟩, ⟨rfl, rfl, rfl, rfl, rfl, rfl⟩⟩
      rw [ec]
      refine h.push hG.n24 rfl (fun i hi => ⟨pk_un (by omega), rfl, pk_un (by omega), pk_un (by omega), pk_un (by omega), rfl, fun q hq => (b2 _ (by omega)).trans (b _ (by omega))⟩) pk_us (fun z => z.elim (fun z => absurd (show (3 : Int32) = 0 from z) (by decide)) (fun z => absurd (show (3 : Int32) = 4 from z) (by decide))) pk_us pk_us ?_ (fun q _ hq => ?_) (fun q z => absurd (show (3 : Int32) = 1 from z) (by decide)) (fun z => absurd (show (3 : Int32) = 4 from z) (by decide))
      · show upd r.size mk len mk = nI n; rw [pk_us]; exact e
      · show g2 (24 * mk + q) = tt_v0 (fun j => if j < n then 7 else 0) n q
        have hq2 : q < n := hq
        rw [c2 _ (by omega) (by omega)]
        exact (tt_v0_1 hq2 (by show ¬ (if q < n then (7 : Int32) else 0) < 6; rw [if_pos hq2]; decide)).symm
    · rw [if_neg l4, if_pos (show len < 0 ∨ ¬ len ≤ 4 from Or.inr l4)]; exact ⟨r, rfl, h, RK.rfl9 r⟩
theorem r_constant {cd : Nat → Option DT} {mk : Nat} {td : Nat → TT} {r : RS} (hG : GI cd mk td) (hC : RC cd r) (h : RO mk td r) (k n : Int32) : ∃ r', m_constant k n r = some ((ga_constant cd mk td k n).1, r') ∧ RO (ga_constant cd mk td k n).2.1 (ga_constant cd mk td k n).2.2 r' ∧ RK r r' := by
  have hm := hG.mk12
  unfold ga_constant m_constant
  by_cases hd : ga_isdef cd k = 0
  · rw [m_noClass_1 hC hd, Option.bind_some, if_neg n10, if_pos (Or.inl hd)]; exact ⟨r, rfl, h, RK.rfl9 r⟩
  obtain ⟨j, d, hj, e, ec, hc⟩ := ga_isdef_some hd
  obtain ⟨s1, s2, -⟩ := hC.so j d hc
  rw [m_noClass_0 hC hd, Option.bind_some, if_pos rfl, rd_ok e hj (by decide), Option.bind_some, ec, hc]
  by_cases hn : n < 0 ∨ ¬ n < 26
  · rw [if_pos (show ga_isdef cd k = 0 ∨ n < 0 ∨ ¬ n < 26 from Or.inr hn)]
    refine ⟨r, ?_, h, RK.rfl9 r⟩
    show (if r.kind j = 3 then Option.bind (m_out n 26 r) _ else _) = _
    by_cases h3 : r.kind j = 3
    · rw [if_pos h3, m_out_1 hn, Option.bind_some, if_neg n10]
    · rw [if_neg h3]
  rw [if_neg (show ¬ (ga_isdef cd k = 0 ∨ n < 0 ∨ ¬ n < 26) from fun z => z.elim hd hn)]
  simp only []
  show ∃ r', (if r.kind j = 3 then Option.bind (m_out n 26 r) _ else _) = _ ∧ _
  by_cases h3 : dd_kd d = 3
  · have hn0 : ¬ n < 0 := fun z => hn (Or.inl z)
    have hn1 : n < 26 := by
      by_cases z : n < 26
      · exact z
      · exact absurd (Or.inr z) hn
    obtain ⟨n9, hn9, en, enc⟩ := ix_i (x := n) (n := 26) (by decide) hn0 (Int32.not_le.mpr hn1)
    rw [if_pos (s2.trans h3), m_out_0 hn0 hn1, Option.bind_some, if_pos rfl, if_neg (show ¬ ¬ dd_kd d = 3 from fun z => z h3)]
    by_cases hf : 12 ≤ nI mk
    · rw [if_pos hf, begin_full (r := r) h.ob hm hf, Option.bind_some, if_neg nm2]; exact ⟨r, rfl, h, RK.rfl9 r⟩
    rw [if_neg hf]
    have hmk := mk12f hm hf
    obtain ⟨g, a, b, c⟩ := begin_ok h.ob hmk 4 0
    rw [a, Option.bind_some, if_pos (nI_pos' (by omega)), wr_ok rfl (show mk < 20 by omega) (by decide), Option.bind_some, wr_ok rfl (show mk < 20 by omega) (by decide), Option.bind_some]
    refine ⟨_, rfl, ?_, ⟨rfl, rfl, rfl, rfl, rfl, rfl, rfl, rfl⟩, ⟨rfl, rfl, rfl, rfl, rfl, rfl⟩⟩
    refine h.push hG.n24 rfl (fun i hi => ⟨pk_un (by omega), pk_un (by omega), pk_un (by omega), pk_un (by omega), pk_un (by omega), pk_un (by omega), fun q hq => b _ (by omega)⟩) pk_us (fun _ => pk_us) pk_us pk_us ?_ (fun q _ hq => absurd (show q < 0 from hq) (Nat.not_lt_zero _)) (fun q z => absurd (show (4 : Int32) = 1 from z) (by decide)) (fun _ => ⟨n9, hn9, ?_, ?_⟩)
    · show upd r.size mk 0 mk = nI 0; rw [pk_us]; rfl
    · show upd r.nameOf mk n mk = nI n9; rw [pk_us]; exact en
    · show [(z9_tx 0).getD n.toNatClampNeg 0] = _; rw [enc, z9_ab n9 hn9]
  · rw [if_neg (fun z => h3 (s2.symm.trans z)), if_pos h3]; exact ⟨r, rfl, h, RK.rfl9 r⟩
