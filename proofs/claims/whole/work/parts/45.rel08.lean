/-! the making of an object of a class; a field more -/
theorem RC.ua {cd cd' : Nat → Option DT} {r : RS} (h : RC cd r) (hu : ∀ k, (cd k = none ∧ cd' k = none) ∨ ∃ d u, cd k = some d ∧ cd' k = some (dd_su d u)) : RC cd' r := by
  have bwd : ∀ q z, cd' q = some z → ∃ y u, cd q = some y ∧ z = dd_su y u := by
    intro q z hq
    rcases hu q with ⟨-, a⟩ | ⟨z2, u, a, b⟩
    · rw [hq] at a; exact absurd a (by simp)
    · exact ⟨z2, u, a, Option.some.inj (hq.symm.trans b)⟩
  refine ⟨fun k hk hn => ?_, fun k d hk => ?_, fun k d f hk hf => ?_⟩
  · rcases hu k with ⟨a, -⟩ | ⟨z2, u, a, b⟩
    · exact h.no k hk a
    · rw [hn] at b; exact absurd b (by simp)
  · obtain ⟨y, u, hy, rfl⟩ := bwd k d hk; exact h.so k y hy
  · obtain ⟨y, u, hy, rfl⟩ := bwd k d hk; exact h.fi k y f hy hf
theorem inst_54 {cd : Nat → Option DT} (hD : GD cd) {k : Nat} {d : DT} (hd : cd k = some d) {K : Int32 → Int32 → Int32 → RS → Option (Int32 × RS)} {l1 : Int32} {mk m : Nat} (hmk : mk < 12) (hm : m = ga_sum cd d (dd_cn d)) (hm24 : m ≤ 24) : ∀ (p n : Nat) (r : RS), p ≤ m → p < n → RC cd r → r.classOf mk = nI k → r.size mk = nI m → ∃ g, m_instance_54 K n (nI (m - p)) (nI mk) l1 r = K (nI m) (nI mk) l1 (r.s_value g) ∧ (∀ i, i < 24 * mk + (m - p) ∨ 24 * mk + m ≤ i → g i = r.value i) ∧ ∀ q, m - p ≤ q → q < m → g (24 * mk + q) = (if ga_sty cd d (dd_cn d) q < 6 then r.value (24 * mk + q) else -1) := by
  intro p
  induction p with
  | zero =>
    intro n r _ hn hC hcl hsz
    obtain ⟨n, rfl⟩ : ∃ m, n = m + 1 := ⟨n - 1, by omega⟩
    refine ⟨r.value, ?_, fun _ _ => rfl, fun q h1 h2 => by omega⟩
    rw [m_instance_54, rd_ok rfl (show mk < 20 by omega) (by decide), Option.bind_some, hsz, Nat.sub_zero, if_pos (Int32.le_refl _), RS.self_value]
  | succ p ih =>
    intro n r hp hn hC hcl hsz
    obtain ⟨n, rfl⟩ : ∃ m, n = m + 1 := ⟨n - 1, by omega⟩
    rw [m_instance_54, rd_ok rfl (show mk < 20 by omega) (by decide), Option.bind_some, hsz, if_neg (nI_ge (by omega) (by omega)), r_slotType hD hC hd (show mk < 20 by omega) hcl (by omega), Option.bind_some]
    obtain ⟨t, ht, et⟩ := tyv hD hd (dd_cn d) (Nat.le_refl _) (m - (p + 1))
    show ∃ g, (if ga_sty cd d (dd_cn d) (m - (p + 1)) ≤ 5 then m_instance_54 K n (nI (m - (p + 1)) + 1) (nI mk) l1 r else Option.bind (wrl r.value 480 (24 * nI mk + nI (m - (p + 1))) (-1)) _) = _ ∧ _
    rw [nI_1, show m - (p + 1) + 1 = m - p by omega]
    rcases i_56 t ht with ⟨t1, t2⟩ | ⟨t1, t2, t3⟩
    · rw [if_pos (by rw [et]; exact t1)]
      obtain ⟨g, a, b, c⟩ := ih n r (by omega) (by omega) hC hcl hsz
      refine ⟨g, a, fun i hi => b i (by omega), fun q h1 h2 => ?_⟩
      by_cases hq : q = m - (p + 1)
      · rw [hq, if_pos (by rw [et]; exact t2)]; exact b _ (by omega)
      · exact c q (by omega) h2
    · rw [if_neg (by rw [et]; exact t1), wrl_ok (i24 rfl rfl) (show 24 * mk + (m - (p + 1)) < 480 by omega) (by decide), Option.bind_some]
      obtain ⟨g, a, b, c⟩ := ih n (r.s_value (vp_updL r.value (24 * mk + (m - (p + 1))) (-1))) (by omega) (by omega) hC hcl hsz
      refine ⟨g, ?_, fun i hi => ?_, fun q h1 h2 => ?_⟩
      · show m_instance_54 K n (nI (m - p)) (nI mk) l1 (r.s_value (vp_updL r.value (24 * mk + (m - (p + 1))) (-1))) = _
        rw [a, RS.two_value]
      · rw [b i (by omega)]; exact uL_n (by omega)
      · by_cases hq : q = m - (p + 1)
        · rw [hq, if_neg (by rw [et]; exact t2), b _ (by omega)]; exact uL_s
        · rw [c q (by omega) h2]
          show (if ga_sty cd d (dd_cn d) q < 6 then vp_updL r.value (24 * mk + (m - (p + 1))) (-1) (24 * mk + q) else -1) = _
          rw [uL_n (by omega)]
theorem r_inst {cd : Nat → Option DT} {mk : Nat} {td : Nat → TT} {r : RS} (hG : GI cd mk td) (hC : RC cd r) (h : RO mk td r) (k : Int32) : ∃ r', m_instance k r = some ((ga_instance cd mk td k).1, r') ∧ RC (ga_instance cd mk td k).2.1 r' ∧ RO (ga_instance cd mk td k).2.2.1 (ga_instance cd mk td k).2.2.2 r' ∧ RK r r' := by
  have hm := hG.mk12
  unfold ga_instance m_instance
  by_cases hd : ga_isdef cd k = 0
  · rw [m_noClass_1 hC hd, Option.bind_some, if_neg n10, if_pos hd]; exact ⟨r, rfl, hC, h, RK.rfl9 r⟩
  obtain ⟨c, d, c6, e, ec, hc⟩ := ga_isdef_some hd
  obtain ⟨s1, s2, s3, s4, s5, s6⟩ := hC.so c d hc
  obtain ⟨w1, w2, w3, w4, -⟩ := hG.gd.wd c d hc
  obtain ⟨c1, c2, -⟩ := hG.gd.ch c d hc
  rw [m_noClass_0 hC hd, Option.bind_some, if_pos rfl, rd_ok e c6 (by decide), Option.bind_some, if_neg hd, ec, hc]
  simp only []
  show ∃ r', (if r.kind c = 3 then _ else _) = _ ∧ _
  rw [s2]
  by_cases h3 : dd_kd d = 3
  · rw [if_pos h3, if_pos h3]; exact ⟨r, rfl, hC, h, RK.rfl9 r⟩
  rw [if_neg h3, if_neg h3]
  have hsum : ga_sum cd d (dd_cn d) = ga_sum cd d (dd_cn d - 1) + dd_fn d := by
    have := sum_s (j := dd_cn d - 1) c6 c2 hc
    rw [show dd_cn d - 1 + 1 = dd_cn d by omega] at this
    exact this
  have h24 := ga_sum_4 hG.gd.wd d (dd_cn d)
  rw [e, r_firstSlot hG.gd hC hc (show dd_cn d - 1 < dd_cn d by omega) c2 c6, Option.bind_some, rd_ok rfl c6 (by decide), Option.bind_some]
  show ∃ r', Option.bind (m_begin 0 (nI (ga_sum cd d (dd_cn d - 1)) + r.fields c) r) _ = _ ∧ _
  rw [s5, nI_add, ← hsum]
  by_cases hf : 12 ≤ nI mk
  · rw [if_pos hf, begin_full (r := r) h.ob hm hf, Option.bind_some, if_neg nm2]; exact ⟨r, rfl, hC, h, RK.rfl9 r⟩
  rw [if_neg hf]
  have hmk := mk12f hm hf
  obtain ⟨g, a, b, c9⟩ := begin_ok h.ob hmk 0 (nI (ga_sum cd d (dd_cn d)))
  rw [a, Option.bind_some, if_pos (nI_pos' (by omega)), wr_ok rfl (show mk < 20 by omega) (by decide), Option.bind_some]
  obtain ⟨r1, hr1⟩ : ∃ r1, r1 = (bg r mk 0 (nI (ga_sum cd d (dd_cn d))) g).s_classOf (upd r.classOf mk (nI c)) := ⟨_, rfl⟩
  have hK1 : RK r r1 := by rw [hr1]; exact ⟨⟨rfl, rfl, rfl, rfl, rfl, rfl, rfl, rfl⟩, ⟨rfl, rfl, rfl, rfl, rfl, rfl⟩⟩
  have hv1 : r1.value = g := by rw [hr1]; rfl
  have hcl1 : r1.classOf mk = nI c := by rw [hr1]; exact pk_us
  have hsz1 : r1.size mk = nI (ga_sum cd d (dd_cn d)) := by rw [hr1]; exact pk_us
  show ∃ r', m_instance_54 (fun z3_27 z2_27 z1_27 r_41 => some (z2_27, r_41)) 60 0 (nI mk) (nI c) ((bg r mk 0 (nI (ga_sum cd d (dd_cn d))) g).s_classOf (upd r.classOf mk (nI c))) = _ ∧ _
  rw [← hr1]
  obtain ⟨g2, a2, b2, c2'⟩ := inst_54 hG.gd hc (K := fun z3_27 z2_27 z1_27 r_41 => some (z2_27, r_41)) (l1 := nI c) hmk rfl (by omega) (ga_sum cd d (dd_cn d)) 60 r1 (Nat.le_refl _) (by omega) (hC.keep hK1) hcl1 hsz1
  rw [Nat.sub_self, show nI 0 = 0 from rfl] at a2
  rw [Nat.sub_self] at b2 c2'
  rw [a2]
  have hK2 : RK r (r1.s_value g2) := by rw [hr1]; exact ⟨⟨rfl, rfl, rfl, rfl, rfl, rfl, rfl, rfl⟩, ⟨rfl, rfl, rfl, rfl, rfl, rfl⟩⟩
  refine ⟨_, rfl, (hC.keep hK2).ua (fun q => ga_use_or cd d q (dd_cn d)), ?_, hK2⟩
  rw [hv1] at b2 c2'
  refine h.push hG.n24 (by rw [hr1]; rfl) (fun i hi => ?_) (by rw [hr1]; exact pk_us) (fun _ => hcl1) (by rw [hr1]; exact pk_us) (by rw [hr1]; exact pk_us) hsz1 (fun q _ hq => ?_) (fun q z => absurd (show (0 : Int32) = 1 from z) (by decide)) (fun z => absurd (show (0 : Int32) = 4 from z) (by decide))
  · refine ⟨?_, ?_, ?_, ?_, ?_, ?_, fun q hq => (b2 _ (Or.inl (by omega))).trans (b _ (by omega))⟩
    · rw [hr1]; exact pk_un (by omega)
    · rw [hr1]; exact pk_un (by omega)
    · rw [hr1]; exact pk_un (by omega)
    · rw [hr1]; exact pk_un (by omega)
    · rw [hr1]; exact pk_un (by omega)
    · rw [hr1]; rfl
  · have hq2 : q < ga_sum cd d (dd_cn d) := hq
    show g2 (24 * mk + q) = tt_v0 (ga_sty cd d (dd_cn d)) (ga_sum cd d (dd_cn d)) q
    rw [c2' q (Nat.zero_le _) hq2, c9 _ (by omega) (by omega)]
    unfold tt_v0
    by_cases z : ga_sty cd d (dd_cn d) q < 6
    · rw [if_pos z, if_neg (fun y => y.2 z)]
    · rw [if_neg z, if_pos ⟨hq2, z⟩]
