/-! the parts of an object of a class -/
theorem parts_48_1 (K : Int32 → Int32 → Int32 → Int32 → RS → Option RS) : ∀ (n : Nat) (a b c d : Int32) (r : RS), m_parts_48' K n a b c d r = m_parts_48 K n a b c d r := by
  intro n
  induction n with
  | zero => intro a b c d r; rfl
  | succ n ih => intro a b c d r; rw [m_parts_48', m_parts_48]; simp only [ih]
theorem irun_s {cd : Nat → Option DT} {t : TT} {d0 d : DT} {i c : Nat} (hi : i < dd_cn d0) (c6 : c < 6) (hc : dd_cf d0 i = nI c) (hcd : cd c = some d) : gk_irun cd t d0 (dd_cn d0 - i) (ga_sum cd d0 i) = (if dd_kd d = 0 then [] else gk_parts c t d (ga_sum cd d0 i)) ++ gk_irun cd t d0 (dd_cn d0 - (i + 1)) (ga_sum cd d0 (i + 1)) := by
  have ec : (dd_cf d0 i).toNatClampNeg = c := by rw [hc]; exact nI_clamp (by omega)
  rw [show dd_cn d0 - i = (dd_cn d0 - (i + 1)) + 1 by omega, gk_irun, show dd_cn d0 - 1 - (dd_cn d0 - (i + 1)) = i by omega, ec, hcd, sum_s c6 hc hcd]
theorem irun_len {cd : Nat → Option DT} (hD : GD cd) {t : TT} {k0 : Nat} {d0 : DT} (hd0 : cd k0 = some d0) : ∀ q, q ≤ dd_cn d0 → (gk_irun cd t d0 q (ga_sum cd d0 (dd_cn d0 - q))).length ≤ 5 * q := by
  intro q
  induction q with
  | zero => intro _; exact Nat.le_refl _
  | succ q ih =>
    intro hq
    obtain ⟨c, d, c6, hc, hcd⟩ := (hD.wd k0 d0 hd0).2.2.1 (dd_cn d0 - (q + 1)) (by omega)
    have := irun_s (t := t) (show dd_cn d0 - (q + 1) < dd_cn d0 by omega) c6 hc hcd
    rw [show dd_cn d0 - (dd_cn d0 - (q + 1)) = q + 1 by omega, show dd_cn d0 - (dd_cn d0 - (q + 1) + 1) = q by omega, show dd_cn d0 - (q + 1) + 1 = dd_cn d0 - q by omega] at this
    rw [this, List.length_append]
    have h1 := ih (by omega)
    have h5 := (hD.wd c d hcd).2.2.2.2.1
    have hlen : ∀ q, (gk_prec t d (ga_sum cd d0 (dd_cn d0 - (q + 1)))  q).length = q := by
      intro q
      generalize ga_sum cd d0 (dd_cn d0 - (q + 1)) = fi
      induction q with
      | zero => rfl
      | succ q ih => show (gk_prec t d fi q).length + 1 = q + 1; rw [ih]
    have h2 : (if dd_kd d = 0 then [] else gk_parts c t d (ga_sum cd d0 (dd_cn d0 - (q + 1)))).length ≤ 5 := by
      by_cases h0 : dd_kd d = 0
      · rw [if_pos h0]; exact Nat.zero_le _
      · rw [if_neg h0]
        unfold gk_parts
        rw [List.length_append]
        have h3 : ∀ fi q, (gk_prec t d fi q).length = q := by
          intro fi q
          induction q with
          | zero => rfl
          | succ q ih => show (gk_prec t d fi q).length + 1 = q + 1; rw [ih]
        rw [h3]
        by_cases h2 : dd_kd d = 2
        · rw [if_pos h2]; show dd_sh d + 1 ≤ 5; omega
        · rw [if_neg h2]; show dd_sh d + 0 ≤ 5; omega
    omega
theorem skip0 {cd : Nat → Option DT} (hD : GD cd) {t : TT} {k0 : Nat} {d0 : DT} (hd0 : cd k0 = some d0) {j c : Nat} {d : DT} (hj : j < dd_cn d0) (c6 : c < 6) (hc : dd_cf d0 j = nI c) (hcd : cd c = some d) (h0 : dd_kd d = 0) : ∀ q, q ≤ j + 1 → gk_irun cd t d0 (dd_cn d0 - (j + 1 - q)) (ga_sum cd d0 (j + 1 - q)) = gk_irun cd t d0 (dd_cn d0 - (j + 1)) (ga_sum cd d0 (j + 1)) := by
  intro q
  induction q with
  | zero => intro _; rfl
  | succ q ih =>
    intro hq
    obtain ⟨i, hi⟩ : ∃ i, i = j + 1 - (q + 1) := ⟨_, rfl⟩
    rw [← hi]
    obtain ⟨p, dp, p6, hp, hdp, -⟩ := (hD.ch k0 d0 hd0).2.2 i (by omega)
    have hk : dd_kd dp = 0 := by
      by_cases hij : i = j
      · rw [hij, hc] at hp
        have : c = p := (nI_eq (by omega) (by omega)).mp hp
        subst this
        have : d = dp := Option.some.inj (hcd.symm.trans hdp)
        subst this; exact h0
      · obtain ⟨c', d', c6', hc', hcd', hcn', hpre⟩ := (hD.ch k0 d0 hd0).2.2 j hj
        have : c = c' := (nI_eq (by omega) (by omega)).mp (hc.symm.trans hc')
        subst this
        have : d = d' := Option.some.inj (hcd.symm.trans hcd')
        subst this
        exact (hD.kk c d p dp i hcd (by omega) (by rw [hpre i (by omega)]; exact hp) p6 hdp).2 h0
    rw [irun_s (show i < dd_cn d0 by omega) p6 hp hdp, if_pos hk, List.nil_append, ← ih (by omega), show j + 1 - q = i + 1 by omega]
theorem ks_order (r : RS) (g : Nat → Int32) : KS r (r.s_order g) := ⟨⟨rfl, rfl, rfl, rfl, rfl, rfl, rfl, rfl⟩, ⟨rfl, rfl, rfl, rfl, rfl, rfl, rfl, rfl⟩, ⟨rfl, rfl, rfl, rfl, rfl, rfl⟩, ⟨rfl, rfl, rfl, rfl⟩⟩
theorem STK.order {cd : Nat → Option DT} {mk : Nat} {td : Nat → TT} {r : RS} {st : List IT} (h : STK cd mk td r st) (g : Nat → Int32) : STK cd mk td (r.s_order g) st := ⟨h.lf, h.le, h.it⟩
theorem parts_7 {cd : Nat → Option DT} {mk : Nat} {td : Nat → TT} (hG : GI cd mk td) {o k0 : Nat} (ho : o < mk) (s0 : tt_so (td o) = 0) {d0 : DT} (hk0 : tt_ow (td o) = nI k0) (hd0 : cd k0 = some d0) {st : List IT} (hst : st.length + 36 ≤ 900) : ∀ (j n : Nat) (r : RS), j ≤ dd_cn d0 → j < n → Pq cd mk td r → STK cd mk td r (gk_irun cd (td o) d0 (dd_cn d0 - j) (ga_sum cd d0 j) ++ st) → ∃ r', m_parts_7 (fun _ _ r => some r) n (chx d0 j) (nI o) r = some r' ∧ KS r r' ∧ STK cd mk td r' (gk_irun cd (td o) d0 (dd_cn d0) 0 ++ st) := by
  have h6 := (hG.gd.wd k0 d0 hd0).2.1
  intro j
  induction j with
  | zero =>
    intro n r _ hn hq hS
    obtain ⟨n, rfl⟩ : ∃ m, n = m + 1 := ⟨n - 1, by omega⟩
    refine ⟨r, ?_, KS.rfl9 r, hS⟩
    rw [m_parts_7, if_pos (show chx d0 0 < 0 by show (-1 : Int32) < 0; decide)]
  | succ j ih =>
    intro n r hj hn hq hS
    obtain ⟨n, rfl⟩ : ∃ m, n = m + 1 := ⟨n - 1, by omega⟩
    obtain ⟨c, d, c6, hc, hcd, hcn, hpre, hab, -⟩ := ch_at hG.gd hq.1 hd0 (show j < dd_cn d0 by omega)
    have h5 := (hG.gd.wd c d hcd).2.2.2.2.1
    have hlen := irun_len hG.gd (t := td o) hd0 (dd_cn d0 - (j + 1)) (by omega)
    rw [show dd_cn d0 - (dd_cn d0 - (j + 1)) = j + 1 by omega] at hlen
    have rk9 : ∀ r, Pq cd mk td r → rd r.kind 6 (nI c) = some (dd_kd d) := fun r hr => by rw [rd_ok rfl c6 (by decide), (hr.1.so c d hcd).2.1]
    have rab : ∀ r, Pq cd mk td r → rd r.above 6 (nI c) = some (chx d0 j) := fun r hr => by
      obtain ⟨c', e', c6', hc', hce', -, -, hab', -⟩ := ch_at hG.gd hr.1 hd0 (show j < dd_cn d0 by omega)
      have : c = c' := (nI_eq (by omega) (by omega)).mp (hc.symm.trans hc')
      subst this
      rw [rd_ok rfl c6 (by decide), hab']
    rw [chx_s, hc, m_parts_7, if_neg (nI_pos (by omega)), rk9 r hq, Option.bind_some]
    by_cases h0 : dd_kd d = 0
    · rw [if_pos h0]
      refine ⟨r, rfl, KS.rfl9 r, ?_⟩
      have := skip0 hG.gd (t := td o) hd0 (show j < dd_cn d0 by omega) c6 hc hcd h0 (j + 1) (Nat.le_refl _)
      rw [Nat.sub_self, Nat.sub_zero] at this
      rw [show (0 : Nat) = ga_sum cd d0 0 from rfl, this]; exact hS
    rw [if_neg h0, Option.bind_some]
    have hirun := irun_s (t := td o) (show j < dd_cn d0 by omega) c6 hc hcd
    rw [if_neg h0] at hirun
    -- from arrange on
    have go : ∀ (r1 : RS) (X : List IT), KS r r1 → STK cd mk td r1 (X ++ (gk_irun cd (td o) d0 (dd_cn d0 - (j + 1)) (ga_sum cd d0 (j + 1)) ++ st)) → X.length ≤ 1 → gk_prec (td o) d (ga_sum cd d0 j) (dd_sh d) ++ X = gk_parts c (td o) d (ga_sum cd d0 j) → ∃ r', Option.bind (m_arrange (nI c) r1) (fun y_12 => m_parts_48 (fun z4_16 z3_16 z2_16 z1_16 r_40 => Option.bind (rd r_40.above 6 z2_16) (fun v_44 => m_parts_7 (fun _ _ r => some r) n v_44 z1_16 r_40)) 60 (y_12.1 - 1) y_12.1 (nI c) (nI o) y_12.2) = some r' ∧ KS r r' ∧ STK cd mk td r' (gk_irun cd (td o) d0 (dd_cn d0) 0 ++ st) := by
      intro r1 X k1 S1 hX hXe
      obtain ⟨g, a1, a2⟩ := r_arrange hG.gd (k1.pq hq).1 hcd
      rw [a1, Option.bind_some]
      obtain ⟨r2, b1, b2, b3⟩ := parts_48 hG ho s0 hk0 hd0 (show j < dd_cn d0 by omega) hc c6 hcd (K := fun z4_16 z3_16 z2_16 z1_16 r_40 => Option.bind (rd r_40.above 6 z2_16) (fun v_44 => m_parts_7 (fun _ _ r => some r) n v_44 z1_16 r_40)) (x3 := nI (dd_sh d)) (dd_sh d) 60 (r1.s_order g) (X ++ (gk_irun cd (td o) d0 (dd_cn d0 - (j + 1)) (ga_sum cd d0 (j + 1)) ++ st)) (Nat.le_refl _) (by omega) ((ks_order r1 g).pq (k1.pq hq)) a2 (by rw [Nat.sub_self]; exact S1.order g) (by rw [List.length_append, List.length_append]; omega)
      show ∃ r', m_parts_48 (fun z4_16 z3_16 z2_16 z1_16 r_40 => Option.bind (rd r_40.above 6 z2_16) (fun v_44 => m_parts_7 (fun _ _ r => some r) n v_44 z1_16 r_40)) 60 (nI (dd_sh d) - 1) (nI (dd_sh d)) (nI c) (nI o) (r1.s_order g) = some r' ∧ _
      rw [b1]
      have k2 : KS r r2 := (k1.trans (ks_order r1 g)).trans b2
      rw [rab r2 (k2.pq hq), Option.bind_some]
      obtain ⟨r', c1, c2, c3⟩ := ih n r2 (by omega) (by omega) (k2.pq hq) (by
        rw [hirun, ← hXe, List.append_assoc, List.append_assoc]; exact b3)
      exact ⟨r', c1, k2.trans c2, c3⟩
    by_cases h2 : dd_kd d = 2
    · rw [if_pos h2]
      obtain ⟨r1, a1, a2, a3, a4⟩ := push_ok hS (by rw [List.length_append]; omega) (a := 2) (b := nI o) (c := nI c) (i := IT.ex (tt_ex (td o) + nI c)) (Or.inr (Or.inr ⟨rfl, o, c, ho, c6, rfl, rfl, rfl⟩))
      rw [a1, Option.bind_some]
      have := go r1 [IT.ex (tt_ex (td o) + nI c)] a2 a4 (Nat.le_refl _) (by unfold gk_parts; rw [if_pos h2])
      obtain ⟨r', b1, b2⟩ := this
      refine ⟨r', ?_, b2⟩
      rw [← b1]
      exact congrArg (Option.bind _) (funext fun y => parts_48_1 _ _ _ _ _ _ _)
    · rw [if_neg h2]
      exact go r [] (KS.rfl9 r) hS (Nat.zero_le _) (by unfold gk_parts; rw [if_neg h2])
theorem r_parts {cd : Nat → Option DT} {mk : Nat} {td : Nat → TT} (hG : GI cd mk td) {o k0 : Nat} (ho : o < mk) (s0 : tt_so (td o) = 0) {d0 : DT} (hk0 : tt_ow (td o) = nI k0) (hd0 : cd k0 = some d0) {st : List IT} (hst : st.length + 36 ≤ 900) {r : RS} (hq : Pq cd mk td r) (hS : STK cd mk td r st) : ∃ r', m_parts (nI o) r = some r' ∧ KS r r' ∧ STK cd mk td r' (gk_irun cd (td o) d0 (dd_cn d0) 0 ++ st) := by
  have hm := hG.mk12
  have h6 := (hG.gd.wd k0 d0 hd0).2.1
  obtain ⟨c1, c2, -⟩ := hG.gd.ch k0 d0 hd0
  have ex : chx d0 (dd_cn d0) = nI k0 := by unfold chx; rw [if_neg (by omega)]; exact c2
  unfold m_parts
  rw [rd_ok rfl (show o < 20 by omega) (by decide), Option.bind_some, (hq.2.o o ho).2.1 (Or.inl s0), hk0, ← ex]
  exact parts_7 hG ho s0 hk0 hd0 hst (dd_cn d0) 60 r (Nat.le_refl _) (by omega) hq (by rw [Nat.sub_self]; exact hS)
/-- the references of an array -/
theorem refs_93 {cd : Nat → Option DT} {mk : Nat} {td : Nat → TT} (hG : GI cd mk td) {o : Nat} (ho : o < mk) (s3 : tt_so (td o) = 3) {st : List IT} (hst : st.length + 36 ≤ 900) : ∀ (p n : Nat) (r : RS), p ≤ tt_n (td o) → p < n → Pq cd mk td r → STK cd mk td r (gk_rrec (td o) (tt_n (td o) - p) ++ st) → ∃ r', m_writeArray_93' (fun z3_93 z2_93 z1_93 r_103 => some r_103) n (nI p - 1) 1 (nI o) r = some r' ∧ KS r r' ∧ STK cd mk td r' (gk_rrec (td o) (tt_n (td o)) ++ st) := by
  have hm := hG.mk12
  have hl := ((hG.ty o ho).2.1 s3).1
  have hlen : ∀ q, (gk_rrec (td o) q).length = q := by
    intro q; induction q with
    | zero => rfl
    | succ q ih => show (gk_rrec (td o) q).length + 1 = q + 1; rw [ih]
  intro p
  induction p with
  | zero =>
    intro n r _ hn hq hS
    obtain ⟨n, rfl⟩ : ∃ m, n = m + 1 := ⟨n - 1, by omega⟩
    refine ⟨r, ?_, KS.rfl9 r, hS⟩
    rw [m_writeArray_93', if_neg n10, if_pos (by decide)]
  | succ p ih =>
    intro n r hp hn hq hS
    obtain ⟨n, rfl⟩ : ∃ m, n = m + 1 := ⟨n - 1, by omega⟩
    rw [nI_pred, m_writeArray_93', if_neg n10, if_neg (nI_pos (by omega)), rd_ok (i24 rfl rfl) (show 24 * o + p < 480 by omega) (by decide), Option.bind_some, hq.2.va o p ho (by rw [s3]; decide) (by omega)]
    obtain ⟨r1, a1, a2, a3, a4⟩ := push_ok hS (by rw [List.length_append, hlen]; omega) (a := 0) (b := (tt_va (td o) p).toInt32) (c := 0) (i := IT.ob (tt_va (td o) p).toInt32) (Or.inl ⟨rfl, rfl⟩)
    rw [a1, Option.bind_some, nI_m1]
    obtain ⟨r', b1, b2, b3⟩ := ih n r1 (by omega) (by omega) (a2.pq hq) (by
      rw [show tt_n (td o) - p = (tt_n (td o) - (p + 1)) + 1 by omega]
      show STK cd mk td r1 (IT.ob (tt_va (td o) (tt_n (td o) - 1 - (tt_n (td o) - (p + 1)))).toInt32 :: (gk_rrec (td o) (tt_n (td o) - (p + 1)) ++ st))
      rw [show tt_n (td o) - 1 - (tt_n (td o) - (p + 1)) = p by omega]; exact a4)
    exact ⟨r', b1, a2.trans b2, b3⟩
