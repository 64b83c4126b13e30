/-! a field more -/
theorem field_43 {cd : Nat → Option DT} {mk : Nat} {td : Nat → TT} {r : RS} (hG : GI cd mk td) (hC : RC cd r) (h : RO mk td r) {K : Int32 → Int32 → Int32 → Int32 → Int32 → RS → Option (Int32 × RS)} {k : Nat} (hk : k < 6) {l2 l3 l4 : Int32} : ∀ (p n : Nat), p ≤ mk → p < n → ((∃ i, mk - p ≤ i ∧ i < mk ∧ inch cd (td i) k) → m_field_43 K n (nI (mk - p)) (nI k) l2 l3 l4 r = some (-1, r)) ∧ (¬ (∃ i, mk - p ≤ i ∧ i < mk ∧ inch cd (td i) k) → m_field_43 K n (nI (mk - p)) (nI k) l2 l3 l4 r = K (nI mk) (nI k) l2 l3 l4 r) := by
  have hm := hG.mk12
  intro p
  induction p with
  | zero =>
    intro n _ hn
    obtain ⟨n, rfl⟩ : ∃ m, n = m + 1 := ⟨n - 1, by omega⟩
    refine ⟨fun ⟨i, h1, h2, _⟩ => by omega, fun _ => ?_⟩
    rw [m_field_43, h.ob, Nat.sub_zero, if_pos (Int32.le_refl _)]
  | succ p ih =>
    intro n hp hn
    obtain ⟨n, rfl⟩ : ∃ m, n = m + 1 := ⟨n - 1, by omega⟩
    obtain ⟨i1, i2⟩ := ih n (by omega) (by omega)
    have hi : mk - (p + 1) < mk := by omega
    obtain ⟨o1, o2, -⟩ := h.o _ hi
    have hnext : mk - (p + 1) + 1 = mk - p := by omega
    have split : (∃ i, mk - (p + 1) ≤ i ∧ i < mk ∧ inch cd (td i) k) ↔ inch cd (td (mk - (p + 1))) k ∨ ∃ i, mk - p ≤ i ∧ i < mk ∧ inch cd (td i) k := by
      refine ⟨fun ⟨i, a, b, c⟩ => ?_, fun z => ?_⟩
      · by_cases hi2 : i = mk - (p + 1)
        · subst hi2; exact Or.inl c
        · exact Or.inr ⟨i, by omega, b, c⟩
      · rcases z with z | ⟨i, a, b, c⟩
        · exact ⟨_, Nat.le_refl _, hi, z⟩
        · exact ⟨i, by omega, b, c⟩
    rw [split, m_field_43, h.ob, if_neg (nI_ge (by omega) (by omega)), rd_ok rfl (show mk - (p + 1) < 20 by omega) (by decide), Option.bind_some, o1]
    by_cases s0 : tt_so (td (mk - (p + 1))) = 0
    · obtain ⟨c, d, c6, hcw, hcd⟩ := (hG.wt _ hi).2.2.1 (Or.inl s0)
      rw [if_pos s0, rd_ok rfl (show mk - (p + 1) < 20 by omega) (by decide), Option.bind_some, o2 (Or.inl s0), hcw]
      obtain ⟨b1, b2⟩ := r_below hG.gd hC hcd hk
      by_cases hx : ∃ q, q < dd_cn d ∧ dd_cf d q = nI k
      · rw [b1 hx, Option.bind_some, if_neg n10]
        refine ⟨fun _ => rfl, fun z => absurd (Or.inl ?_) z⟩
        obtain ⟨q, q1, q2⟩ := hx
        exact ⟨s0, c, d, q, c6, hcw, hcd, q1, q2⟩
      · rw [b2 hx, Option.bind_some, if_pos rfl, nI_1, hnext]
        have hno : ¬ inch cd (td (mk - (p + 1))) k := by
          rintro ⟨-, c', d', q, c6', hcw', hcd', q1, q2⟩
          have ec : c' = c := (nI_eq (by omega) (by omega)).mp (hcw'.symm.trans hcw)
          subst ec
          have : d' = d := Option.some.inj (hcd'.symm.trans hcd)
          subst this
          exact hx ⟨q, q1, q2⟩
        exact ⟨fun z => i1 (z.resolve_left hno), fun z => i2 (fun y => z (Or.inr y))⟩
    · rw [if_neg s0, nI_1, hnext]
      have hno : ¬ inch cd (td (mk - (p + 1))) k := fun z => s0 z.1
      exact ⟨fun z => i1 (z.resolve_left hno), fun z => i2 (fun y => z (Or.inr y))⟩
theorem i4 {a b : Nat} : (4 * nI a) + nI b = nI (4 * a + b) := by
  rw [show (4 : Int32) = nI 4 from rfl, pk_mul, nI_add]
theorem field_88 {cd : Nat → Option DT} {r : RS} (hC : RC cd r) {K : Int32 → Int32 → Int32 → Int32 → Int32 → RS → Option (Int32 × RS)} {k : Nat} (hk : k < 6) {d : DT} (hd : cd k = some d) (h4 : dd_fn d ≤ 4) {l2 l3 l4 : Int32} : ∀ (p n : Nat), p ≤ dd_fn d → p < n → ((∃ f, dd_fn d - p ≤ f ∧ f < dd_fn d ∧ dd_nm d f = l2) → m_field_88 K n (nI (dd_fn d - p)) (nI k) l2 l3 l4 r = some (-1, r)) ∧ (¬ (∃ f, dd_fn d - p ≤ f ∧ f < dd_fn d ∧ dd_nm d f = l2) → m_field_88 K n (nI (dd_fn d - p)) (nI k) l2 l3 l4 r = K (nI (dd_fn d)) (nI k) l2 l3 l4 r) := by
  obtain ⟨-, -, -, -, s5, -⟩ := hC.so k d hd
  intro p
  induction p with
  | zero =>
    intro n _ hn
    obtain ⟨n, rfl⟩ : ∃ m, n = m + 1 := ⟨n - 1, by omega⟩
    refine ⟨fun ⟨i, h1, h2, _⟩ => by omega, fun _ => ?_⟩
    rw [m_field_88, rd_ok rfl hk (by decide), Option.bind_some, s5, Nat.sub_zero, if_pos (Int32.le_refl _)]
  | succ p ih =>
    intro n hp hn
    obtain ⟨n, rfl⟩ : ∃ m, n = m + 1 := ⟨n - 1, by omega⟩
    obtain ⟨i1, i2⟩ := ih n (by omega) (by omega)
    have hi : dd_fn d - (p + 1) < dd_fn d := by omega
    have hnext : dd_fn d - (p + 1) + 1 = dd_fn d - p := by omega
    rw [m_field_88, rd_ok rfl hk (by decide), Option.bind_some, s5, if_neg (nI_ge (by omega) (by omega)), rd_ok i4 (show 4 * k + (dd_fn d - (p + 1)) < 24 by omega) (by decide), Option.bind_some, (hC.fi k d _ hd hi).1]
    by_cases hn2 : dd_nm d (dd_fn d - (p + 1)) = l2
    · rw [if_pos hn2]
      exact ⟨fun _ => rfl, fun z => absurd ⟨_, Nat.le_refl _, hi, hn2⟩ z⟩
    · rw [if_neg hn2, nI_1, hnext]
      refine ⟨fun ⟨f, a, b, c⟩ => i1 ⟨f, ?_, b, c⟩, fun z => i2 (fun ⟨f, a, b, c⟩ => z ⟨f, by omega, b, c⟩)⟩
      by_cases hf : f = dd_fn d - (p + 1)
      · rw [hf] at c; exact absurd c hn2
      · omega
theorem hasr_1 {d : DT} {n : Int32} : ∀ r, r ≤ dd_fn d → ¬ ga_hasr d n r = 0 → ∃ f, dd_fn d - r ≤ f ∧ f < dd_fn d ∧ dd_nm d f = n := by
  intro r
  induction r with
  | zero => intro _ h; exact absurd rfl h
  | succ r ih =>
    intro hr h
    by_cases hn : dd_nm d (dd_fn d - 1 - r) = n
    · exact ⟨_, by omega, by omega, hn⟩
    · have e : ga_hasr d n (r + 1) = ga_hasr d n r := if_neg hn
      rw [e] at h
      obtain ⟨f, a, b, c⟩ := ih (by omega) h
      exact ⟨f, by omega, b, c⟩
theorem RC.add {cd : Nat → Option DT} {r : RS} (hD : GD cd) (h : RC cd r) {k : Nat} (hk : k < 6) {d : DT} (hd : cd k = some d) (h4 : dd_fn d < 4) (n t tr : Int32) (htr : tr = 0 ∨ tr = 1) : RC (va_up cd k (some (ga_add d n t tr))) ((((r.s_fName (upd r.fName (4 * k + dd_fn d) n)).s_fType (upd r.fType (4 * k + dd_fn d) t)).s_fSkip (upd r.fSkip (4 * k + dd_fn d) (vp_nar .boolean tr))).s_fields (upd r.fields k (nI (dd_fn d) + 1))) := by
  obtain ⟨-, -, -, w4, w5, w6, -⟩ := hD.wd k d hd
  have hsf := hD.sf k d hd
  have ef : dd_fn (ga_add d n t tr) = dd_fn d + 1 := by unfold ga_add; split <;> rfl
  have ek : dd_kd (ga_add d n t tr) = dd_kd d ∧ dd_id (ga_add d n t tr) = dd_id d ∧ dd_cn (ga_add d n t tr) = dd_cn d ∧ dd_cf (ga_add d n t tr) = dd_cf d ∧ dd_nm (ga_add d n t tr) = upd (dd_nm d) (dd_fn d) n ∧ dd_ty (ga_add d n t tr) = upd (dd_ty d) (dd_fn d) t := by
    unfold ga_add; split <;> exact ⟨rfl, rfl, rfl, rfl, rfl, rfl⟩
  -- whom the order shows
  have hor : ∀ f, f < dd_fn d + 1 → ((∃ i, i < dd_sh (ga_add d n t tr) ∧ dd_or (ga_add d n t tr) i = nI f) ↔ (if f = dd_fn d then tr = 0 else ∃ i, i < dd_sh d ∧ dd_or d i = nI f)) := by
    intro f hf
    by_cases z : tr = 0
    · obtain ⟨d1, hd1⟩ : ∃ d1, d1 = dd_sn d (upd (dd_nm d) (dd_fn d) n) (upd (dd_ty d) (dd_fn d) t) := ⟨_, rfl⟩
      have e1 : ga_add d n t tr = dd_sf (ga_put d1 (dd_fn d)) (dd_fn d + 1) := by unfold ga_add; rw [if_pos z, ← hd1]
      have e2 : dd_sh (ga_add d n t tr) = dd_sh d + 1 := by rw [e1, hd1]; rfl
      have e3 : dd_or (ga_add d n t tr) = ga_pio d1 (dd_fn d) (dd_sh d) (dd_or d) := by rw [e1, hd1]; rfl
      rw [e2, e3]
      obtain ⟨s, hs, a, b, c, g, -, -⟩ := pio_spec d1 (dd_fn d) (dd_sh d) (dd_or d)
      by_cases hff : f = dd_fn d
      · rw [if_pos hff]
        exact ⟨fun _ => z, fun _ => ⟨s, by omega, by rw [b, hff]⟩⟩
      · rw [if_neg hff]
        refine ⟨fun ⟨i, hi, he⟩ => ?_, fun ⟨i, hi, he⟩ => ?_⟩
        · rcases Nat.lt_trichotomy i s with q | q | q
          · rw [a i q] at he; exact ⟨i, by omega, he⟩
          · rw [q, b] at he; exact absurd ((nI_eq (by omega) (by omega)).mp he).symm hff
          · rw [c i q (by omega)] at he; exact ⟨i - 1, by omega, he⟩
        · by_cases q : i < s
          · exact ⟨i, by omega, by rw [a i q]; exact he⟩
          · exact ⟨i + 1, by omega, by rw [c (i + 1) (by omega) (by omega), Nat.add_sub_cancel]; exact he⟩
    · have e1 : ga_add d n t tr = dd_sf (dd_sn d (upd (dd_nm d) (dd_fn d) n) (upd (dd_ty d) (dd_fn d) t)) (dd_fn d + 1) := by unfold ga_add; rw [if_neg z]
      have e2 : dd_sh (ga_add d n t tr) = dd_sh d := by rw [e1]; rfl
      have e3 : dd_or (ga_add d n t tr) = dd_or d := by rw [e1]; rfl
      rw [e2, e3]
      by_cases hff : f = dd_fn d
      · rw [if_pos hff]
        refine ⟨fun ⟨i, hi, he⟩ => ?_, fun y => absurd y z⟩
        obtain ⟨f', hf', he'⟩ := w6 i hi
        have := (nI_eq (a := f') (b := f) (by omega) (by omega)).mp (he'.symm.trans he)
        omega
      · rw [if_neg hff]
  refine ⟨fun q hq hn => ?_, fun q z hq => ?_, fun q z f hq hf => ?_⟩
  · have hqk : ¬ q = k := fun z => by rw [z, va_up_self] at hn; exact absurd hn (by simp)
    rw [va_up_ne _ _ hqk] at hn
    obtain ⟨a, b⟩ := h.no q hq hn
    exact ⟨a, (pk_un hqk).trans b⟩
  · rcases va_up_cases hq with ⟨rfl, rfl⟩ | ⟨hqk, hq⟩
    · obtain ⟨a1, a2, a3, a4, a5, a6⟩ := h.so q d hd
      rw [ek.1, ek.2.1, ek.2.2.1, ek.2.2.2.1, ef]
      exact ⟨a1, a2, a3, a4, by show upd r.fields q (nI (dd_fn d) + 1) q = _; rw [pk_us, nI_1], a6⟩
    · obtain ⟨a1, a2, a3, a4, a5, a6⟩ := h.so q z hq
      exact ⟨a1, a2, a3, a4, (pk_un hqk).trans a5, a6⟩
  · rcases va_up_cases hq with ⟨rfl, rfl⟩ | ⟨hqk, hq⟩
    · rw [ef] at hf
      rw [hor f hf, ek.2.2.2.2.1, ek.2.2.2.2.2]
      show upd r.fName (4 * q + dd_fn d) n (4 * q + f) = _ ∧ upd r.fType (4 * q + dd_fn d) t (4 * q + f) = _ ∧ (upd r.fSkip (4 * q + dd_fn d) (vp_nar .boolean tr) (4 * q + f) = 0 ↔ _)
      by_cases hff : f = dd_fn d
      · rw [if_pos hff, hff, pk_us, pk_us, pk_us, pk_us, pk_us]
        refine ⟨rfl, rfl, ?_⟩
        rcases htr with y | y
        · rw [y, nar0]
        · rw [y, nar1]
      · rw [if_neg hff, show upd r.fName (4 * q + dd_fn d) n (4 * q + f) = r.fName (4 * q + f) from pk_un (by omega), show upd r.fType (4 * q + dd_fn d) t (4 * q + f) = r.fType (4 * q + f) from pk_un (by omega), show upd r.fSkip (4 * q + dd_fn d) (vp_nar .boolean tr) (4 * q + f) = r.fSkip (4 * q + f) from pk_un (by omega), show upd (dd_nm d) (dd_fn d) n f = dd_nm d f from pk_un hff, show upd (dd_ty d) (dd_fn d) t f = dd_ty d f from pk_un hff]
        exact h.fi q d f hd (by omega)
    · have hqf : f < 4 := by have := (hD.wd q z hq).2.2.2.1; omega
      show upd r.fName (4 * k + dd_fn d) n (4 * q + f) = _ ∧ upd r.fType (4 * k + dd_fn d) t (4 * q + f) = _ ∧ (upd r.fSkip (4 * k + dd_fn d) (vp_nar .boolean tr) (4 * q + f) = 0 ↔ _)
      rw [show upd r.fName (4 * k + dd_fn d) n (4 * q + f) = r.fName (4 * q + f) from pk_un (by omega), show upd r.fType (4 * k + dd_fn d) t (4 * q + f) = r.fType (4 * q + f) from pk_un (by omega), show upd r.fSkip (4 * k + dd_fn d) (vp_nar .boolean tr) (4 * q + f) = r.fSkip (4 * q + f) from pk_un (by omega)]
      exact h.fi q z f hq hf
theorem r_field {cd : Nat → Option DT} {mk : Nat} {td : Nat → TT} {r : RS} (hG : GI cd mk td) (hC : RC cd r) (h : RO mk td r) (k n t tr : Int32) (htr : tr = 0 ∨ tr = 1) : ∃ r', m_field k n t tr r = some ((ga_field cd k n t tr).1, r') ∧ RC (ga_field cd k n t tr).2 r' ∧ RJ r r' := by
  have hm := hG.mk12
  unfold ga_field m_field
  by_cases hd : ga_isdef cd k = 0
  · rw [m_noClass_1 hC hd, Option.bind_some, if_neg n10, if_pos (Or.inl hd)]; exact ⟨r, rfl, hC, RJ.rfl9 r⟩
  rw [m_noClass_0 hC hd, Option.bind_some, if_pos rfl]
  by_cases hn : n < 0 ∨ ¬ n < 26
  · rw [m_out_1 hn, Option.bind_some, if_neg n10, if_pos (show ga_isdef cd k = 0 ∨ n < 0 ∨ 26 ≤ n ∨ t < 0 ∨ 7 < t from Or.inr (hn.elim Or.inl (fun z => Or.inr (Or.inl (Int32.not_lt.mp z)))))]
    exact ⟨r, rfl, hC, RJ.rfl9 r⟩
  have hn0 : ¬ n < 0 := fun z => hn (Or.inl z)
  have hn1 : n < 26 := by
    by_cases z : n < 26
    · exact z
    · exact absurd (Or.inr z) hn
  rw [m_out_0 hn0 hn1, Option.bind_some, if_pos rfl]
  by_cases ht : t < 0 ∨ ¬ t < 8
  · have : ga_isdef cd k = 0 ∨ n < 0 ∨ 26 ≤ n ∨ t < 0 ∨ 7 < t := Or.inr (Or.inr (Or.inr (ht.elim Or.inl (fun z => Or.inr (Int32.lt_of_lt_of_le (by decide) (Int32.not_lt.mp z))))))
    rw [m_out_1 ht, Option.bind_some, if_neg n10, if_pos this]
    exact ⟨r, rfl, hC, RJ.rfl9 r⟩
  have ht0 : ¬ t < 0 := fun z => ht (Or.inl z)
  have ht1 : t < 8 := by
    by_cases z : t < 8
    · exact z
    · exact absurd (Or.inr z) ht
  obtain ⟨t9, ht9, et, -⟩ := ix_i (x := t) (n := 8) (by decide) ht0 (Int32.not_le.mpr ht1)
  have hc9 : ¬ (ga_isdef cd k = 0 ∨ n < 0 ∨ 26 ≤ n ∨ t < 0 ∨ 7 < t) := by
    rintro (z | z | z | z | z)
    · exact hd z
    · exact hn0 z
    · exact Int32.not_le.mpr hn1 z
    · exact ht0 z
    · rw [et] at z; exact absurd ((nI_ltI (a := 7) (by decide) (by omega)).mp z) (by omega)
  obtain ⟨j, d, hj, e, ec, hc⟩ := ga_isdef_some hd
  obtain ⟨s1, s2, s3, s4, s5, s6⟩ := hC.so j d hc
  obtain ⟨-, -, -, w4, -⟩ := hG.gd.wd j d hc
  rw [m_out_0 ht0 ht1, Option.bind_some, if_pos rfl, if_neg hc9, ec, hc, rd_ok e hj (by decide), Option.bind_some]
  simp only []
  show ∃ r', (if r.kind j = 3 then _ else m_field_43 _ 60 0 k n t tr r) = _ ∧ _
  rw [s2]
  by_cases h3 : dd_kd d = 3
  · rw [if_pos h3, if_pos (Or.inl h3)]; exact ⟨r, rfl, hC, RJ.rfl9 r⟩
  rw [if_neg h3]
  obtain ⟨K, hK⟩ : ∃ K : Int32 → Int32 → Int32 → Int32 → Int32 → RS → Option (Int32 × RS), K = (fun z5_23 z1_23 z2_23 z3_23 z4_23 r_36 => m_field_88 (fun z5_38 z1_38 z2_38 z3_38 z4_38 r_46 => Option.bind (rd r_46.fields 6 z1_38) (fun v_50 => if (v_50 : Int32) = 4 then (some ((-1), r_46)) else (Option.bind (rd r_46.fields 6 z1_38) (fun v_52 => Option.bind (wr r_46.fName 24 ((4 * z1_38) + v_52) z2_38) (fun w_54 => Option.bind (wr r_46.fType 24 ((4 * z1_38) + v_52) z3_38) (fun w_58 => Option.bind (wrz r_46.fSkip 24 ((4 * z1_38) + v_52) z4_38) (fun w_62 => Option.bind (rd r_46.fields 6 z1_38) (fun v_66 => Option.bind (wr r_46.fields 6 z1_38 (v_66 + 1)) (fun w_67 => Option.bind (rd w_67 6 z1_38) (fun v_71 => some (v_71, (RS.s_fields (RS.s_fSkip (RS.s_fType (RS.s_fName r_46 w_54) w_58) w_62) w_67)))))))))))) 60 0 z1_23 z2_23 z3_23 z4_23 r_36) := ⟨_, rfl⟩
  show ∃ r', m_field_43 (fun z5_23 z1_23 z2_23 z3_23 z4_23 r_36 => m_field_88 (fun z5_38 z1_38 z2_38 z3_38 z4_38 r_46 => Option.bind (rd r_46.fields 6 z1_38) (fun v_50 => if (v_50 : Int32) = 4 then (some ((-1), r_46)) else (Option.bind (rd r_46.fields 6 z1_38) (fun v_52 => Option.bind (wr r_46.fName 24 ((4 * z1_38) + v_52) z2_38) (fun w_54 => Option.bind (wr r_46.fType 24 ((4 * z1_38) + v_52) z3_38) (fun w_58 => Option.bind (wrz r_46.fSkip 24 ((4 * z1_38) + v_52) z4_38) (fun w_62 => Option.bind (rd r_46.fields 6 z1_38) (fun v_66 => Option.bind (wr r_46.fields 6 z1_38 (v_66 + 1)) (fun w_67 => Option.bind (rd w_67 6 z1_38) (fun v_71 => some (v_71, (RS.s_fields (RS.s_fSkip (RS.s_fType (RS.s_fName r_46 w_54) w_58) w_62) w_67)))))))))))) 60 0 z1_23 z2_23 z3_23 z4_23 r_36) 60 0 k n t tr r = _ ∧ _
  rw [← hK]
  obtain ⟨f1, f2⟩ := field_43 hG hC h (K := K) hj (l2 := n) (l3 := t) (l4 := tr) mk 60 (Nat.le_refl _) (by omega)
  rw [Nat.sub_self, ← e, show nI 0 = 0 from rfl] at f1 f2
  by_cases hu : ∃ i, 0 ≤ i ∧ i < mk ∧ inch cd (td i) j
  · have : dd_us d = 1 := (hG.us j d hc).2.mpr (by obtain ⟨i, -, a, b⟩ := hu; exact ⟨i, a, b⟩)
    rw [f1 hu, if_pos (Or.inr (by rw [this]; decide))]
    exact ⟨r, rfl, hC, RJ.rfl9 r⟩
  have hu0 : dd_us d = 0 := by
    rcases (hG.us j d hc).1 with z | z
    · exact z
    · obtain ⟨i, a, b⟩ := (hG.us j d hc).2.mp z
      exact absurd ⟨i, Nat.zero_le _, a, b⟩ hu
  rw [f2 hu, if_neg (show ¬ (dd_kd d = 3 ∨ ¬ dd_us d = 0) from fun z => z.elim h3 (fun z => z hu0)), hK]
  show ∃ r', m_field_88 _ 60 0 k n t tr r = _ ∧ _
  obtain ⟨g1, g2⟩ := field_88 hC (K := (fun z5_38 z1_38 z2_38 z3_38 z4_38 r_46 => Option.bind (rd r_46.fields 6 z1_38) (fun v_50 => if (v_50 : Int32) = 4 then (some ((-1), r_46)) else (Option.bind (rd r_46.fields 6 z1_38) (fun v_52 => Option.bind (wr r_46.fName 24 ((4 * z1_38) + v_52) z2_38) (fun w_54 => Option.bind (wr r_46.fType 24 ((4 * z1_38) + v_52) z3_38) (fun w_58 => Option.bind (wrz r_46.fSkip 24 ((4 * z1_38) + v_52) z4_38) (fun w_62 => Option.bind (rd r_46.fields 6 z1_38) (fun v_66 => Option.bind (wr r_46.fields 6 z1_38 (v_66 + 1)) (fun w_67 => Option.bind (rd w_67 6 z1_38) (fun v_71 => some (v_71, (RS.s_fields (RS.s_fSkip (RS.s_fType (RS.s_fName r_46 w_54) w_58) w_62) w_67))))))))))))) hj hc w4 (l2 := n) (l3 := t) (l4 := tr) (dd_fn d) 60 (Nat.le_refl _) (by omega)
  rw [Nat.sub_self, ← e, show nI 0 = 0 from rfl] at g1 g2
  by_cases hh : ∃ f, 0 ≤ f ∧ f < dd_fn d ∧ dd_nm d f = n
  · have : ¬ ga_hasr d n (dd_fn d) = 0 := fun z => by
      obtain ⟨f, -, a, b⟩ := hh
      exact hasr_0 _ (Nat.le_refl _) z f (by omega) a b
    rw [g1 hh, if_pos (Or.inr this)]
    exact ⟨r, rfl, hC, RJ.rfl9 r⟩
  have hh0 : ga_hasr d n (dd_fn d) = 0 := by
    by_cases z : ga_hasr d n (dd_fn d) = 0
    · exact z
    · obtain ⟨f, -, a, b⟩ := hasr_1 _ (Nat.le_refl _) z
      exact absurd ⟨f, Nat.zero_le _, a, b⟩ hh
  rw [g2 hh, rd_ok e hj (by decide), Option.bind_some, s5]
  by_cases h4 : dd_fn d = 4
  · rw [if_pos (by rw [h4]; rfl), if_pos (Or.inl (by rw [h4]; decide))]
    exact ⟨r, rfl, hC, RJ.rfl9 r⟩
  have hf4 : dd_fn d < 4 := by omega
  rw [if_neg (show ¬ nI (dd_fn d) = 4 from fun z => h4 ((nI_eq (b := 4) (by omega) (by decide)).mp z)), if_neg (show ¬ (4 ≤ nI (dd_fn d) ∨ ¬ ga_hasr d n (dd_fn d) = 0) from fun z => z.elim (fun z => nI_ge (b := 4) hf4 (by decide) z) (fun z => z hh0))]
  have e4 : 4 * k + nI (dd_fn d) = nI (4 * j + dd_fn d) := by rw [e]; exact i4
  rw [Option.bind_some, wr_ok e4 (show 4 * j + dd_fn d < 24 by omega) (by decide), Option.bind_some, wr_ok e4 (show 4 * j + dd_fn d < 24 by omega) (by decide), Option.bind_some, wrz_ok e4 (show 4 * j + dd_fn d < 24 by omega) (by decide), Option.bind_some, Option.bind_some, wr_ok e hj (by decide), Option.bind_some, rd_ok e hj (by decide), Option.bind_some, pk_us]
  refine ⟨_, by rw [nI_1], RC.add hG.gd hC hj hc hf4 n t tr htr, ⟨rfl, rfl, rfl, rfl, rfl, rfl, rfl, rfl⟩, ⟨rfl, rfl, rfl, rfl, rfl, rfl⟩⟩
