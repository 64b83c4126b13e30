/-! the order of a class's fields -/
def iv (d : DT) (ro p : Nat) : Prop := p ≤ dd_sh d ∧ (∀ i, i < p → rk d (dd_or d i).toNatClampNeg < ro) ∧ ∀ i, p ≤ i → i < dd_sh d → ro ≤ rk d (dd_or d i).toNatClampNeg
theorem RS.two_order (r : RS) (a b : Nat → Int32) : (r.s_order a).s_order b = r.s_order b := by
  show (va_up (va_up r.1 _ a) _ b, r.2.1, r.2.2) = _
  rw [va_up_2]
theorem RS.self_order (r : RS) : r.s_order r.order = r := by
  show (va_up r.1 _ (r.1 _), r.2.1, r.2.2) = r
  rw [va_up_id]
/-- does the field f stand at this place of the order? -/
def tk (r : RS) (k nm ro f : Nat) : Prop := r.fName (4 * k + f) = nI nm ∧ r.fSkip (4 * k + f) = 0 ∧ ((¬ r.fType (4 * k + f) ≤ 5) ↔ ro = 1)
theorem arr_24 {K : Int32 → Int32 → Int32 → Int32 → Int32 → RS → Option (Int32 × RS)} {k nm ro fn : Nat} (hk : k < 6) (hfn : fn ≤ 4) (hro : ro < 2) : ∀ (q n cnt : Nat) (r : RS), q ≤ fn → q < n → r.fields k = nI fn → cnt < 2 ^ 31 → ((∀ f, fn - q ≤ f → f < fn → ¬ tk r k nm ro f) → m_arrange_24 K n (nI (4 * k + (fn - q))) (nI nm) (nI ro) (nI cnt) (nI k) r = K (nI (4 * k + fn)) (nI nm) (nI ro) (nI cnt) (nI k) r) ∧ (∀ g, fn - q ≤ g → g < fn → cnt < 4 → tk r k nm ro g → (∀ f, fn - q ≤ f → f < fn → tk r k nm ro f → f = g) → m_arrange_24 K n (nI (4 * k + (fn - q))) (nI nm) (nI ro) (nI cnt) (nI k) r = K (nI (4 * k + fn)) (nI nm) (nI ro) (nI (cnt + 1)) (nI k) (r.s_order (upd r.order cnt (nI (4 * k + g))))) := by
  have e4 : ∀ a b, (4 * nI a) + nI b = nI (4 * a + b) := fun a b => i4
  intro q
  induction q with
  | zero =>
    intro n cnt r _ hn hf _
    obtain ⟨n, rfl⟩ : ∃ m, n = m + 1 := ⟨n - 1, by omega⟩
    refine ⟨fun _ => ?_, fun g h1 h2 => by omega⟩
    rw [m_arrange_24, rd_ok rfl hk (by decide), Option.bind_some, hf, e4, Nat.sub_zero, if_pos (Int32.le_refl _)]
  | succ q ih =>
    intro n cnt r hq hn hf hc
    obtain ⟨n, rfl⟩ : ∃ m, n = m + 1 := ⟨n - 1, by omega⟩
    obtain ⟨f, hfe⟩ : ∃ f, f = fn - (q + 1) := ⟨_, rfl⟩
    have hf1 : fn - q = f + 1 := by omega
    have hnx : nI (4 * k + f) + 1 = nI (4 * k + (fn - q)) := by rw [nI_1, hf1]; rfl
    -- one step: the field is taken or not
    have step0 : ¬ tk r k nm ro f → m_arrange_24 K (n + 1) (nI (4 * k + f)) (nI nm) (nI ro) (nI cnt) (nI k) r = m_arrange_24 K n (nI (4 * k + (fn - q))) (nI nm) (nI ro) (nI cnt) (nI k) r := by
      intro ht
      rw [m_arrange_24, rd_ok rfl hk (by decide), Option.bind_some, hf, e4, if_neg (nI_ge (by omega) (by omega)), rd_ok rfl (show 4 * k + f < 24 by omega) (by decide), Option.bind_some, hnx]
      by_cases h1 : r.fName (4 * k + f) = nI nm
      · rw [if_pos h1, rd_ok rfl (show 4 * k + f < 24 by omega) (by decide), Option.bind_some]
        by_cases h2 : r.fSkip (4 * k + f) = 0
        · rw [if_pos h2, rd_ok rfl (show 4 * k + f < 24 by omega) (by decide), Option.bind_some]
          by_cases h3 : r.fType (4 * k + f) ≤ 5
          · rw [if_pos h3]
            by_cases h4 : ro = 1
            · rw [if_pos (by rw [h4]; decide)]
            · exact absurd ⟨h1, h2, ⟨fun z => absurd h3 z, fun z => absurd z h4⟩⟩ ht
          · rw [if_neg h3]
            by_cases h4 : ro = 1
            · exact absurd ⟨h1, h2, ⟨fun _ => h4, fun _ => h3⟩⟩ ht
            · rw [if_neg (show ¬ nI ro = 1 from fun z => h4 ((nI_eq (b := 1) (by omega) (by decide)).mp z))]
        · rw [if_neg h2]
      · rw [if_neg h1]
    have step1 : tk r k nm ro f → cnt < 4 → m_arrange_24 K (n + 1) (nI (4 * k + f)) (nI nm) (nI ro) (nI cnt) (nI k) r = m_arrange_24 K n (nI (4 * k + (fn - q))) (nI nm) (nI ro) (nI (cnt + 1)) (nI k) (r.s_order (upd r.order cnt (nI (4 * k + f)))) := by
      rintro ⟨h1, h2, h3⟩ h4
      rw [m_arrange_24, rd_ok rfl hk (by decide), Option.bind_some, hf, e4, if_neg (nI_ge (by omega) (by omega)), rd_ok rfl (show 4 * k + f < 24 by omega) (by decide), Option.bind_some, if_pos h1, rd_ok rfl (show 4 * k + f < 24 by omega) (by decide), Option.bind_some, if_pos h2, rd_ok rfl (show 4 * k + f < 24 by omega) (by decide), Option.bind_some, wr_ok rfl h4 (by decide), Option.bind_some, hnx, nI_1]
      by_cases h5 : r.fType (4 * k + f) ≤ 5
      · rw [if_pos h5, if_neg (show ¬ nI ro = 1 from fun z => (h3.mpr ((nI_eq (b := 1) (by omega) (by decide)).mp z)) h5)]
      · rw [if_neg h5, if_pos (by rw [h3.mp h5]; decide)]
    rw [← hfe]
    refine ⟨fun hno => ?_, fun g g1 g2 g3 g4 g5 => ?_⟩
    · rw [step0 (hno f (by omega) (by omega))]
      exact (ih n cnt r (by omega) (by omega) hf hc).1 (fun f' a b => hno f' (by omega) b)
    · by_cases hgf : g = f
      · subst hgf
        rw [step1 g4 g3]
        have := (ih n (cnt + 1) (r.s_order (upd r.order cnt (nI (4 * k + g)))) (by omega) (by omega) hf (by omega)).1 (fun f' a b z => by
          have z2 : tk r k nm ro f' := z
          have := g5 f' (by omega) b z2
          omega)
        rw [this]
      · have hnf : ¬ tk r k nm ro f := fun z => hgf (g5 f (by omega) (by omega) z).symm
        rw [step0 hnf]
        exact (ih n cnt r (by omega) (by omega) hf hc).2 g (by omega) g2 g3 g4 (fun f' a b z => g5 f' (by omega) b z)
/-- a field of this rank that is shown is the next of the order -/
theorem tk_iff {cd : Nat → Option DT} {r : RS} (hD : GD cd) (hC : RC cd r) {k : Nat} {d : DT} (hd : cd k = some d) {nm ro : Nat} (hnm : nm < 26) (hro : ro < 2) {f : Nat} (hf : f < dd_fn d) : tk r k nm ro f ↔ (rk d f = 26 * ro + nm ∧ ∃ i, i < dd_sh d ∧ dd_or d i = nI f) := by
  obtain ⟨-, -, -, w4, w5, w6, w7, w8⟩ := hD.wd k d hd
  obtain ⟨f1, f2, f3⟩ := hC.fi k d f hd hf
  obtain ⟨n, hn, en⟩ := w7 f (by omega)
  obtain ⟨t, ht, et⟩ := w8 f (by omega)
  have e6 : (6 ≤ dd_ty d f) ↔ 6 ≤ t := by rw [et]; exact nI_leI (a := 6) (by decide) (by omega)
  have e5 : (dd_ty d f ≤ 5) ↔ t ≤ 5 := by rw [et]; exact nI_leI (b := 5) (by omega) (by decide)
  unfold tk
  rw [f1, f2, f3, e5, en, nI_eq (by omega) (by omega)]
  unfold rk
  rw [en, nI_clamp (by omega)]
  by_cases h6 : 6 ≤ dd_ty d f
  · rw [if_pos h6]
    have := e6.mp h6
    refine ⟨fun ⟨a, b, c⟩ => ⟨?_, b⟩, fun ⟨a, b⟩ => ⟨by omega, b, ⟨fun _ => by omega, fun _ => by omega⟩⟩⟩
    have := c.mp (by omega)
    omega
  · rw [if_neg h6]
    have h6' : ¬ 6 ≤ t := fun z => h6 (e6.mpr z)
    refine ⟨fun ⟨a, b, c⟩ => ⟨?_, b⟩, fun ⟨a, b⟩ => ⟨by omega, b, ⟨fun z => absurd (by omega) z, fun z => by omega⟩⟩⟩
    have : ¬ ro = 1 := fun z => absurd (by omega) (c.mpr z)
    omega
theorem or_lt {cd : Nat → Option DT} (hD : GD cd) {k : Nat} {d : DT} (hd : cd k = some d) {i : Nat} (hi : i < dd_sh d) : ∃ f, f < dd_fn d ∧ dd_or d i = nI f ∧ (dd_or d i).toNatClampNeg = f := by
  obtain ⟨-, -, -, w4, w5, w6, -⟩ := hD.wd k d hd
  obtain ⟨f, hf, e⟩ := w6 i hi
  exact ⟨f, hf, e, by rw [e]; exact nI_clamp (by omega)⟩
def oks (k : Nat) (d : DT) (p : Nat) (g : Nat → Int32) : Prop := ∀ i, i < p → g i = nI (4 * k + (dd_or d i).toNatClampNeg)
theorem arr_12 {cd : Nat → Option DT} (hD : GD cd) {k : Nat} {d : DT} (hd : cd k = some d) {K : Int32 → Int32 → Int32 → Int32 → RS → Option (Int32 × RS)} {ro : Nat} (hro : ro < 2) : ∀ (q n p : Nat) (r : RS), q ≤ 26 → q < n → RC cd r → iv d (26 * ro + (26 - q)) p → oks k d p r.order → ∃ p' g', m_arrange_12 K n (nI (26 - q)) (nI ro) (nI p) (nI k) r = K 26 (nI ro) (nI p') (nI k) (r.s_order g') ∧ iv d (26 * ro + 26) p' ∧ oks k d p' g' := by
  obtain ⟨hk, -, -, w4, w5, w6, w7, w8⟩ := hD.wd k d hd
  intro q
  induction q with
  | zero =>
    intro n p r _ hn hC hi ho
    obtain ⟨n, rfl⟩ : ∃ m, n = m + 1 := ⟨n - 1, by omega⟩
    refine ⟨p, r.order, ?_, hi, ho⟩
    rw [m_arrange_12, if_pos (by decide), RS.self_order]; rfl
  | succ q ih =>
    intro n p r hq hn hC hi ho
    obtain ⟨n, rfl⟩ : ∃ m, n = m + 1 := ⟨n - 1, by omega⟩
    obtain ⟨i1, i2, i3⟩ := hi
    obtain ⟨-, -, -, -, s5, -⟩ := hC.so k d hd
    have hsf := hD.sf k d hd
    rw [m_arrange_12, if_neg (show ¬ (26 : Int32) ≤ nI (26 - (q + 1)) from nI_ge (b := 26) (by omega) (by decide))]
    obtain ⟨a1, a2⟩ := arr_24 (K := fun z5_5 z4_5 z3_5 z2_5 z1_5 r_31 => m_arrange_12 K n (z4_5 + 1) z3_5 z2_5 z1_5 r_31) (k := k) (nm := 26 - (q + 1)) (ro := ro) hk w4 hro (dd_fn d) 60 p r (Nat.le_refl _) (by omega) s5 (by omega)
    rw [Nat.sub_self] at a1 a2
    have e40 : (4 : Int32) * nI k = nI (4 * k + 0) := by rw [show (4 : Int32) = nI 4 from rfl, pk_mul]; rfl
    rw [e40]
    have hnx : nI (26 - (q + 1)) + 1 = nI (26 - q) := by rw [nI_1, show 26 - (q + 1) + 1 = 26 - q by omega]
    have hkey : ∀ f, f < dd_fn d → (tk r k (26 - (q + 1)) ro f ↔ (p < dd_sh d ∧ dd_or d p = nI f ∧ rk d f = 26 * ro + (26 - (q + 1)))) := by
      intro f hf
      rw [tk_iff hD hC hd (by omega) hro hf]
      refine ⟨fun ⟨a, i, b, c⟩ => ?_, fun ⟨a, b, c⟩ => ⟨c, p, a, b⟩⟩
      have ec : (dd_or d i).toNatClampNeg = f := by rw [c]; exact nI_clamp (by omega)
      have hip : i = p := by
        rcases Nat.lt_trichotomy i p with z | z | z
        · have := i2 i z; rw [ec] at this; omega
        · exact z
        · have := hD.sr k d hd p i z b
          have := i3 p (Nat.le_refl _) (by omega)
          rw [ec] at *; omega
      subst hip
      exact ⟨b, c, a⟩
    by_cases hx : p < dd_sh d ∧ rk d (dd_or d p).toNatClampNeg = 26 * ro + (26 - (q + 1))
    · obtain ⟨hp, hr⟩ := hx
      obtain ⟨f, hf, ef, ec⟩ := or_lt hD hd hp
      rw [ec] at hr
      have htk : tk r k (26 - (q + 1)) ro f := (hkey f hf).mpr ⟨hp, ef, hr⟩
      rw [a2 f (Nat.zero_le _) hf (by omega) htk (fun f' _ b z => by
        obtain ⟨-, c, -⟩ := (hkey f' b).mp z
        exact (nI_eq (by omega) (by omega)).mp (c.symm.trans ef))]
      show ∃ p' g', m_arrange_12 K n (nI (26 - (q + 1)) + 1) (nI ro) (nI (p + 1)) (nI k) (r.s_order (upd r.order p (nI (4 * k + f)))) = _ ∧ _
      rw [hnx]
      have hv : iv d (26 * ro + (26 - q)) (p + 1) := by
        refine ⟨by omega, fun i hi => ?_, fun i h1 h2 => ?_⟩
        · by_cases hip : i = p
          · rw [hip, ec]; omega
          · have := i2 i (by omega); omega
        · have := hD.sr k d hd p i (by omega) h2
          rw [ec] at this; omega
      have hok : oks k d (p + 1) (r.s_order (upd r.order p (nI (4 * k + f)))).order := by
        intro i hi
        show upd r.order p (nI (4 * k + f)) i = _
        by_cases hip : i = p
        · rw [hip, pk_us, ec]
        · rw [pk_un hip]; exact ho i (by omega)
      obtain ⟨p', g', b1, b2, b3⟩ := ih n (p + 1) (r.s_order (upd r.order p (nI (4 * k + f)))) (by omega) (by omega) hC hv hok
      exact ⟨p', g', by rw [b1, RS.two_order], b2, b3⟩
    · rw [a1 (fun f _ hf z => by
        obtain ⟨a, b, c⟩ := (hkey f hf).mp z
        exact hx ⟨a, by rw [b, nI_clamp (by omega)]; exact c⟩)]
      show ∃ p' g', m_arrange_12 K n (nI (26 - (q + 1)) + 1) (nI ro) (nI p) (nI k) r = _ ∧ _
      rw [hnx]
      refine ih n p r (by omega) (by omega) hC ⟨i1, fun i hi => by have := i2 i hi; omega, fun i h1 h2 => ?_⟩ ho
      have h3 := i3 i h1 h2
      by_cases hip : i = p
      · have : ¬ rk d (dd_or d i).toNatClampNeg = 26 * ro + (26 - (q + 1)) := fun z => hx ⟨by omega, by rw [← hip]; exact z⟩
        omega
      · have := hD.sr k d hd p i (by omega) h2
        have := i3 p (Nat.le_refl _) (by omega)
        omega
theorem r_arrange {cd : Nat → Option DT} {r : RS} (hD : GD cd) (hC : RC cd r) {k : Nat} {d : DT} (hd : cd k = some d) : ∃ g, m_arrange (nI k) r = some (nI (dd_sh d), r.s_order g) ∧ oks k d (dd_sh d) g := by
  obtain ⟨hk, -, -, w4, w5, w6, w7, w8⟩ := hD.wd k d hd
  unfold m_arrange
  rw [show (60 : Nat) = 59 + 1 from rfl, m_arrange_4, if_neg (by decide)]
  obtain ⟨p1, g1, a1, b1, c1⟩ := arr_12 hD hd (K := fun z4_3 z3_3 z2_3 z1_3 r_33 => m_arrange_4 (fun z3_1 z2_1 z1_1 r_35 => some (z2_1, r_35)) 59 (z3_3 + 1) z2_3 z1_3 r_33) (ro := 0) (by decide) 26 60 0 r (by decide) (by decide) hC ⟨Nat.zero_le _, fun i hi => absurd hi (Nat.not_lt_zero _), fun i _ _ => Nat.zero_le _⟩ (fun i hi => absurd hi (Nat.not_lt_zero _))
  rw [show nI (26 - 26) = 0 from rfl] at a1
  show ∃ g, m_arrange_12 (fun z4_3 z3_3 z2_3 z1_3 r_33 => m_arrange_4 (fun z3_1 z2_1 z1_1 r_35 => some (z2_1, r_35)) 59 (z3_3 + 1) z2_3 z1_3 r_33) 60 0 0 0 (nI k) r = _ ∧ _
  rw [a1]
  show ∃ g, m_arrange_4 (fun z3_1 z2_1 z1_1 r_35 => some (z2_1, r_35)) (58 + 1) (0 + 1) (nI p1) (nI k) (r.s_order g1) = _ ∧ _
  rw [m_arrange_4, if_neg (by decide)]
  obtain ⟨p2, g2, a2, b2, c2⟩ := arr_12 hD hd (K := fun z4_3 z3_3 z2_3 z1_3 r_33 => m_arrange_4 (fun z3_1 z2_1 z1_1 r_35 => some (z2_1, r_35)) 58 (z3_3 + 1) z2_3 z1_3 r_33) (ro := 1) (by decide) 26 60 p1 (r.s_order g1) (by decide) (by decide) hC b1 c1
  rw [show nI (26 - 26) = 0 from rfl] at a2
  show ∃ g, m_arrange_12 (fun z4_3 z3_3 z2_3 z1_3 r_33 => m_arrange_4 (fun z3_1 z2_1 z1_1 r_35 => some (z2_1, r_35)) 58 (z3_3 + 1) z2_3 z1_3 r_33) 60 0 (nI 1) (nI p1) (nI k) (r.s_order g1) = _ ∧ _
  rw [a2]
  show ∃ g, m_arrange_4 (fun z3_1 z2_1 z1_1 r_35 => some (z2_1, r_35)) (57 + 1) (nI 1 + 1) (nI p2) (nI k) ((r.s_order g1).s_order g2) = _ ∧ _
  rw [m_arrange_4, if_pos (by decide), RS.two_order]
  have hp2 : p2 = dd_sh d := by
    obtain ⟨q1, q2, q3⟩ := b2
    by_cases h : p2 = dd_sh d
    · exact h
    · exfalso
      have h1 := q3 p2 (Nat.le_refl _) (by omega)
      obtain ⟨f, hf, ef, ec⟩ := or_lt hD hd (show p2 < dd_sh d by omega)
      obtain ⟨n, hn, en⟩ := w7 f (by omega)
      have := (rk_ok hn en).2
      rw [ec] at h1; omega
  rw [hp2] at c2 ⊢
  exact ⟨g2, rfl, c2⟩
