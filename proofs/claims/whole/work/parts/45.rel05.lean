/-! the way up -/
def chx (d : DT) (j : Nat) : Int32 := if j = 0 then -1 else dd_cf d (j - 1)
theorem chx_s {d : DT} (j : Nat) : chx d (j + 1) = dd_cf d j := by unfold chx; rw [if_neg (by omega), Nat.add_sub_cancel]
/-- at the place j of a class's chain -/
theorem ch_at {cd : Nat → Option DT} {r : RS} (hD : GD cd) (hC : RC cd r) {k : Nat} {d : DT} (hd : cd k = some d) {j : Nat} (hj : j < dd_cn d) : ∃ c e, c < 6 ∧ dd_cf d j = nI c ∧ cd c = some e ∧ dd_cn e = j + 1 ∧ (∀ i, i ≤ j → dd_cf e i = dd_cf d i) ∧ r.above c = chx d j ∧ r.fields c = nI (dd_fn e) := by
  obtain ⟨c, e, a1, a2, a3, a4, a5⟩ := (hD.ch k d hd).2.2 j hj
  obtain ⟨s1, s2, s3, s4, s5, s6⟩ := hC.so c e a3
  refine ⟨c, e, a1, a2, a3, a4, a5, ?_, s5⟩
  rw [s6, a4]
  unfold chx
  by_cases h0 : j = 0
  · rw [if_pos (by omega), if_pos h0]
  · rw [if_neg (by omega), if_neg h0, a5 _ (by omega), show j + 1 - 2 = j - 1 by omega]
theorem fs_12 {cd : Nat → Option DT} {r : RS} (hD : GD cd) (hC : RC cd r) {k : Nat} {d : DT} (hd : cd k = some d) {K : Int32 → Int32 → Int32 → Int32 → RS → Option (Int32 × RS)} {l1 : Int32} : ∀ (j n i acc : Nat), j ≤ dd_cn d → i + j ≤ 5 → j < n → m_firstSlot_12 K n (nI i) (chx d j) (nI acc) l1 r = K (nI (i + j)) (-1) (nI (acc + ga_sum cd d j)) l1 r := by
  intro j
  induction j with
  | zero =>
    intro n i acc _ hi hn
    obtain ⟨n, rfl⟩ : ∃ m, n = m + 1 := ⟨n - 1, by omega⟩
    rw [m_firstSlot_12, if_neg (show ¬ (6 : Int32) ≤ nI i from nI_ge (b := 6) (by omega) (by decide)), if_pos (by show (-1 : Int32) < 0; decide)]; rfl
  | succ j ih =>
    intro n i acc hj hi hn
    obtain ⟨n, rfl⟩ : ∃ m, n = m + 1 := ⟨n - 1, by omega⟩
    obtain ⟨c, e, c6, hc, hce, hcn, hpre, hab, hfi⟩ := ch_at hD hC hd (show j < dd_cn d by omega)
    rw [chx_s, m_firstSlot_12, if_neg (show ¬ (6 : Int32) ≤ nI i from nI_ge (b := 6) (by omega) (by decide)), if_neg (by rw [hc]; exact nI_pos (by omega)), rd_ok hc c6 (by decide), Option.bind_some, rd_ok hc c6 (by decide), Option.bind_some, hab, hfi, nI_1, nI_add, ih n (i + 1) (acc + dd_fn e) (by omega) (by omega) (by omega), sum_s c6 hc hce, show i + 1 + j = i + (j + 1) by omega, show acc + dd_fn e + ga_sum cd d j = acc + (ga_sum cd d j + dd_fn e) by omega]
theorem r_firstSlot {cd : Nat → Option DT} {r : RS} (hD : GD cd) (hC : RC cd r) {k : Nat} {d : DT} (hd : cd k = some d) {j c : Nat} (hj : j < dd_cn d) (hc : dd_cf d j = nI c) (c6 : c < 6) : m_firstSlot (nI c) r = some (nI (ga_sum cd d j), r) := by
  obtain ⟨c', e, c6', hc', hce, hcn, hpre, hab, hfi⟩ := ch_at hD hC hd hj
  have ec : c = c' := (nI_eq (by omega) (by omega)).mp (hc.symm.trans hc')
  subst ec
  have h6 := (hD.wd k d hd).2.1
  unfold m_firstSlot
  rw [rd_ok rfl c6 (by decide), Option.bind_some]
  show m_firstSlot_12 _ 60 0 (r.above c) 0 (nI c) r = _
  have := fs_12 hD hC hd (K := fun z4_4 z3_4 z2_4 z1_4 r_12 => some (z2_4, r_12)) (l1 := nI c) j 60 0 0 (by omega) (by omega) (by omega)
  rw [hab]
  rw [show nI 0 = 0 from rfl] at this
  rw [this, Nat.zero_add]
theorem holder_5 {cd : Nat → Option DT} {r : RS} (hD : GD cd) (hC : RC cd r) {k : Nat} {d : DT} (hd : cd k = some d) {l1 : Int32} {s : Nat} (hs : s < 2 ^ 31) : ∀ (j n i : Nat), j < dd_cn d → i + j ≤ 5 → j < n → s < ga_sum cd d (j + 1) → ∃ q, q ≤ j ∧ ga_sum cd d q ≤ s ∧ s < ga_sum cd d (q + 1) ∧ m_holder_5 (fun z4_1 z3_1 z1_1 z2_1 r_12 => some (z3_1, r_12)) n (nI i) (dd_cf d j) l1 (nI s) r = some (dd_cf d q, r) := by
  intro j
  induction j with
  | zero =>
    intro n i hj hi hn hs2
    obtain ⟨n, rfl⟩ : ∃ m, n = m + 1 := ⟨n - 1, by omega⟩
    obtain ⟨c, e, c6, hc, -⟩ := ch_at hD hC hd hj
    refine ⟨0, Nat.le_refl _, Nat.zero_le _, hs2, ?_⟩
    rw [m_holder_5, if_neg (show ¬ (6 : Int32) ≤ nI i from nI_ge (b := 6) (by omega) (by decide)), hc, r_firstSlot hD hC hd hj hc c6, Option.bind_some, if_pos (show nI (ga_sum cd d 0) ≤ nI s from nI_le (Nat.zero_le _) hs)]
  | succ j ih =>
    intro n i hj hi hn hs2
    obtain ⟨n, rfl⟩ : ∃ m, n = m + 1 := ⟨n - 1, by omega⟩
    obtain ⟨c, e, c6, hc, hce, hcn, hpre, hab, hfi⟩ := ch_at hD hC hd hj
    have hsm := ga_sum_4 hD.wd d (j + 1)
    have h6 := (hD.wd k d hd).2.1
    by_cases hle : ga_sum cd d (j + 1) ≤ s
    · refine ⟨j + 1, Nat.le_refl _, hle, hs2, ?_⟩
      rw [m_holder_5, if_neg (show ¬ (6 : Int32) ≤ nI i from nI_ge (b := 6) (by omega) (by decide)), hc, r_firstSlot hD hC hd hj hc c6, Option.bind_some, if_pos (nI_le hle hs)]
    · obtain ⟨q, q1, q2, q3, q4⟩ := ih n (i + 1) (by omega) (by omega) (by omega) (by omega)
      refine ⟨q, by omega, q2, q3, ?_⟩
      rw [m_holder_5, if_neg (show ¬ (6 : Int32) ≤ nI i from nI_ge (b := 6) (by omega) (by decide)), hc, r_firstSlot hD hC hd hj hc c6, Option.bind_some, if_neg (show ¬ nI (ga_sum cd d (j + 1)) ≤ nI s from nI_ge (by omega) (by omega)), rd_ok rfl c6 (by decide), Option.bind_some]
      show m_holder_5 _ n (nI i + 1) (r.above c) l1 (nI s) r = _
      rw [hab, nI_1, chx_s]
      exact q4
theorem r_slotType {cd : Nat → Option DT} {r : RS} (hD : GD cd) (hC : RC cd r) {k : Nat} {d : DT} (hd : cd k = some d) {o s : Nat} (ho : o < 20) (hcl : r.classOf o = nI k) (hs : s < ga_sum cd d (dd_cn d)) : m_slotType (nI o) (nI s) r = some (ga_sty cd d (dd_cn d) s, r) := by
  obtain ⟨c1, c2, -⟩ := hD.ch k d hd
  obtain ⟨w1, w2, w3, w4, -⟩ := hD.wd k d hd
  have h24 := ga_sum_4 hD.wd d (dd_cn d)
  unfold m_slotType m_holder
  rw [rd_ok rfl ho (by decide), Option.bind_some, hcl]
  obtain ⟨q, q1, q2, q3, q4⟩ := holder_5 hD hC hd (l1 := nI k) (show s < 2 ^ 31 by omega) (dd_cn d - 1) 60 0 (by omega) (by omega) (by omega) (by rw [show dd_cn d - 1 + 1 = dd_cn d by omega]; exact hs)
  rw [c2, show nI 0 = 0 from rfl] at q4
  rw [q4, Option.bind_some]
  obtain ⟨c, e, c6, hc, hce, hcn, hpre, hab, hfi⟩ := ch_at hD hC hd (show q < dd_cn d by omega)
  have hsq := sum_s c6 hc hce
  obtain ⟨-, -, -, e4, -⟩ := hD.wd c e hce
  show Option.bind (m_firstSlot (dd_cf d q) r) _ = _
  rw [hc, r_firstSlot hD hC hd (show q < dd_cn d by omega) hc c6, Option.bind_some]
  show Option.bind (rd r.fType 24 (4 * nI c + nI s - nI (ga_sum cd d q))) _ = _
  have e9 : 4 * nI c + nI s - nI (ga_sum cd d q) = nI (4 * c + (s - ga_sum cd d q)) := by
    rw [show (4 : Int32) = nI 4 from rfl, pk_mul, nI_add, pk_sub (by omega), show 4 * c + s - ga_sum cd d q = 4 * c + (s - ga_sum cd d q) by omega]
  rw [rd_ok e9 (show 4 * c + (s - ga_sum cd d q) < 24 by omega) (by decide), Option.bind_some, (hC.fi c e (s - ga_sum cd d q) hce (by omega)).2.1]
  have := sty_at w3 (dd_cn d) (Nat.le_refl _) q c e (s - ga_sum cd d q) (by omega) hc c6 hce (by omega)
  rw [show ga_sum cd d q + (s - ga_sum cd d q) = s by omega] at this
  rw [this]
theorem below_5 {cd : Nat → Option DT} {r : RS} (hD : GD cd) (hC : RC cd r) {k : Nat} {d : DT} (hd : cd k = some d) {l1 : Int32} {m : Nat} (hm : m < 6) : ∀ (j n i : Nat), j ≤ dd_cn d → i + j ≤ 6 → j < n → ((∃ q, q < j ∧ dd_cf d q = nI m) → m_below_5 (fun z4_1 z3_1 z1_1 z2_1 r_8 => if (z3_1 : Int32) = z2_1 then (some (1, r_8)) else (some (0, r_8))) n (nI i) (chx d j) l1 (nI m) r = some (1, r)) ∧ (¬ (∃ q, q < j ∧ dd_cf d q = nI m) → m_below_5 (fun z4_1 z3_1 z1_1 z2_1 r_8 => if (z3_1 : Int32) = z2_1 then (some (1, r_8)) else (some (0, r_8))) n (nI i) (chx d j) l1 (nI m) r = some (0, r)) := by
  intro j
  induction j with
  | zero =>
    intro n i _ hi hn
    obtain ⟨n, rfl⟩ : ∃ m, n = m + 1 := ⟨n - 1, by omega⟩
    refine ⟨fun ⟨q, hq, _⟩ => absurd hq (Nat.not_lt_zero _), fun _ => ?_⟩
    have hne : ¬ (-1 : Int32) = nI m := fun z => nI_ne1 (show m < 2 ^ 31 by omega) z.symm
    rw [show chx d 0 = -1 from rfl, m_below_5, if_neg hne]
    by_cases h6 : (6 : Int32) ≤ nI i
    · rw [if_pos h6]
    · rw [if_neg h6, if_pos (by decide)]
  | succ j ih =>
    intro n i hj hi hn
    obtain ⟨n, rfl⟩ : ∃ m, n = m + 1 := ⟨n - 1, by omega⟩
    obtain ⟨c, e, c6, hc, hce, hcn, hpre, hab, hfi⟩ := ch_at hD hC hd (show j < dd_cn d by omega)
    rw [chx_s, m_below_5, if_neg (show ¬ (6 : Int32) ≤ nI i from nI_ge (b := 6) (by omega) (by decide)), if_neg (show ¬ dd_cf d j < 0 by rw [hc]; exact nI_pos (by omega))]
    by_cases hcm : dd_cf d j = nI m
    · rw [if_pos hcm]
      exact ⟨fun _ => by rw [if_pos hcm], fun z => absurd ⟨j, by omega, hcm⟩ z⟩
    · rw [if_neg hcm, rd_ok hc c6 (by decide), Option.bind_some, hab, nI_1]
      obtain ⟨i1, i2⟩ := ih n (i + 1) (by omega) (by omega) (by omega)
      refine ⟨fun ⟨q, hq, hqe⟩ => i1 ⟨q, ?_, hqe⟩, fun z => i2 (fun ⟨q, hq, hqe⟩ => z ⟨q, by omega, hqe⟩)⟩
      by_cases hqj : q = j
      · rw [hqj] at hqe; exact absurd hqe hcm
      · omega
theorem r_below {cd : Nat → Option DT} {r : RS} (hD : GD cd) (hC : RC cd r) {k : Nat} {d : DT} (hd : cd k = some d) {m : Nat} (hm : m < 6) : ((∃ q, q < dd_cn d ∧ dd_cf d q = nI m) → m_below (nI k) (nI m) r = some (1, r)) ∧ (¬ (∃ q, q < dd_cn d ∧ dd_cf d q = nI m) → m_below (nI k) (nI m) r = some (0, r)) := by
  obtain ⟨c1, c2, -⟩ := hD.ch k d hd
  have h6 := (hD.wd k d hd).2.1
  have := below_5 hD hC hd (l1 := nI k) hm (dd_cn d) 60 0 (Nat.le_refl _) (by omega) (by omega)
  have e : chx d (dd_cn d) = nI k := by unfold chx; rw [if_neg (by omega)]; exact c2
  rw [e, show nI 0 = 0 from rfl] at this
  unfold m_below
  exact this
