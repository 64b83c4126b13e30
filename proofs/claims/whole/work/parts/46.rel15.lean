/-! a whole descriptor; a named constant; an array; a text -/
theorem sim_descr {cd : Nat → Option DT} {mk : Nat} {td : Nat → TT} (hD : GD cd) {k0 : Nat} {d0 : DT} (hd0 : cd k0 = some d0) (s : Nat) : Sim (False, Pq cd mk td) s s (fun x => ga_descr cd d0 x) (m_descriptor (nI k0)) := by
  have hP := stab0 False cd mk td
  obtain ⟨hk, w2, w3, w4, w5, -⟩ := hD.wd k0 d0 hd0
  obtain ⟨c1, c2, -⟩ := hD.ch k0 d0 hd0
  have ex : chx d0 (dd_cn d0) = nI k0 := by unfold chx; rw [if_neg (by omega)]; exact c2
  by_cases h3 : dd_kd d0 = 3
  · -- a class of named constants
    have hcn : dd_cn d0 = 1 := by
      by_cases z : dd_cn d0 = 1
      · exact z
      · exfalso
        obtain ⟨c, e, c6, hc, hce, -⟩ := (hD.ch k0 d0 hd0).2.2 0 (by omega)
        have := (hD.kk k0 d0 c e 0 hd0 (by omega) hc c6 hce).1.2
        rw [h3] at this; exact absurd this (by decide)
    have hfn := hD.e3 k0 d0 hd0 h3
    have hsh : dd_sh d0 = 0 := by have := hD.sf k0 d0 hd0; have := hfn.1; omega
    have rk9 : ∀ r, Pq cd mk td r → rd r.kind 6 (nI k0) = some 3 := fun r hr => by rw [rd_ok rfl hk (by decide), (hr.1.so k0 d0 hd0).2.1, h3]
    have k1 : Sim (False, Pq cd mk td) s s (fun x => ga_top x 32 (z9_tx 5) 0 18) (fun y => Option.bind (m_enumBase y) (fun z => some z)) := (sim_enumBase hP s).congr (fun _ => rfl) (fun r _ => ob_id _)
    have k2 := pe1 hP (24 + k0) (h9 := 40 + nI k0) (by omega) (hk40 k0 hk) 18 k1
    have k3 := (Sim.rd (R := fun y => rd y.kind 6 (nI k0)) (v0 := 3) (K := fun v y => if v = 3 then Option.bind (m_plainEnd (40 + nI k0) 18 y) (fun y_204 => Option.bind (m_enumBase y_204) (fun y_208 => some y_208)) else (Option.bind (m_give (40 + (nI k0)) y) (fun y_130 => Option.bind (rd y_130.kind 6 (nI k0)) (fun v_136 => if (v_136 : Int32) = 2 then (Option.bind (m_append 3 1 y_130) (fun y_171 => Option.bind (m_arrange (nI k0) y_171) (fun y_175 => Option.bind (m_append y_175.1.toInt64 2 y_175.2) (fun y_180 => m_descriptor_170''' (fun z5_185 z4_185 z3_185 z2_185 z1_185 r_194 => Option.bind (m_append 120 1 r_194) (fun y_196 => Option.bind (rd y_196.above 6 z2_185) (fun v_203 => m_descriptor_4 (fun _ _ _ r => some r) 59 (z3_185 + 1) v_203 z1_185 y_196))) 60 0 y_175.1 0 (nI k0) (nI k0) y_180)))) else (Option.bind (m_append 2 1 y_130) (fun y_138 => Option.bind (m_arrange (nI k0) y_138) (fun y_142 => Option.bind (m_append y_142.1.toInt64 2 y_142.2) (fun y_147 => m_descriptor_170'' (fun z5_152 z4_152 z3_152 z2_152 z1_152 r_161 => Option.bind (m_append 120 1 r_161) (fun y_163 => Option.bind (rd y_163.above 6 z2_152) (fun v_170 => m_descriptor_4 (fun _ _ _ r => some r) 59 (z3_152 + 1) v_170 z1_152 y_163))) 60 0 y_142.1 0 (nI k0) (nI k0) y_147)))))))) rk9 (Sim.ite1 rfl k2))
    have k4 := ap1 hP s 0 8 (w9 := 8) (by decide) rfl (by omega) k3
    have k5 := (Sim.rd (R := fun y => rd y.kind 6 (nI k0)) (v0 := 3) (K := fun v y_20 => if v = 3 then Option.bind (m_append 0 8 y_20) _ else (Option.bind (rd y_20.id 6 (nI k0)) (fun v_30 => Option.bind (m_append v_30 8 y_20) (fun y_31 => Option.bind (rd y_31.kind 6 (nI k0)) (fun v_37 => if (v_37 : Int32) = 3 then (Option.bind (m_plainEnd (40 + (nI k0)) 18 y_31) (fun y_113 => Option.bind (m_enumBase  y_113) (fun y_117 => some y_117))) else (Option.bind (m_give (40 + (nI k0)) y_31) (fun y_39 => Option.bind (rd y_39.kind 6 (nI k0)) (fun v_45 => if (v_45 : Int32) = 2 then (Option.bind (m_append 3 1 y_39) (fun y_80 => Option.bind (m_arrange (nI k0) y_80) (fun y_84 => Option.bind (m_append y_84.1.toInt64 2 y_84.2) (fun y_89 => m_descriptor_170' (fun z5_94 z4_94 z3_94 z2_94 z1_94 r_103 => Option.bind (m_append 120 1 r_103) (fun y_105 => Option.bind (rd y_105.above 6 z2_94) (fun v_112 => m_descriptor_4 (fun _ _ _ r => some r) 59 (z3_94 + 1) v_112 z1_94 y_105))) 60 0 y_84.1 0 (nI k0) (nI k0) y_89)))) else (Option.bind (m_append 2 1 y_39) (fun y_47 => Option.bind (m_arrange (nI k0) y_47) (fun y_51 => Option.bind (m_append y_51.1.toInt64 2 y_51.2) (fun y_56 => m_descriptor_170 (fun z5_61 z4_61 z3_61 z2_61 z1_61 r_70 => Option.bind (m_append 120 1 r_70) (fun y_72 => Option.bind (rd y_72.above 6 z2_61) (fun v_79 => m_descriptor_4 (fun _ _ _ r => some r) 59 (z3_61 + 1) v_79 z1_61 y_72))) 60 0 y_51.1 0 (nI k0) (nI k0) y_56)))))))))))) rk9 (Sim.ite1 rfl k4))
    have k6 := lt1 hP (65 + nI k0) k5
    have k7 := ap1 hP s 114 1 (w9 := 1) (by decide) rfl (by omega) k6
    have k8 := sim_ref2 (24 + k0) (h9 := 40 + nI k0) (by omega) (hk40 k0 hk) k7 (Nat.le_refl _)
    refine k8.congr (fun x => ?_) (fun r hr => ?_)
    · show ga_descr cd d0 x = _
      have e1 : dd_cf d0 0 = nI k0 := by rw [← c2, hcn]
      have e2 : (dd_cf d0 0).toNatClampNeg = k0 := by rw [e1]; exact nI_clamp (by omega)
      unfold ga_descr
      rw [hcn]
      show ga_dfin d0 (ga_dch cd d0 (0 + 1) x) = _
      rw [ga_dch, e2, hd0]
      simp only []
      rw [if_neg (by rw [h3]; decide), es_desc_eq1, hfn.2, hsh, show ga_fl d0 = 18 from if_pos h3, i65]
      by_cases h1 : x.2.2.1 (24 + k0) = -1
      · rw [if_pos h1, if_pos h1, if_neg n10]
        show ga_dfin d0 (_, false) = _
        unfold ga_dfin
        rw [if_neg (show ¬ false = true by decide), if_pos h3, show (nI 0).toInt64 = 0 by decide]
        dsimp only
        rw [show ∀ y, ga_frec d0 0 y = y from fun _ => rfl]
      · rw [if_neg h1, if_neg h1, if_pos rfl]
        unfold ga_dfin; rw [if_pos rfl]
    · show m_descriptor (nI k0) r = _
      unfold m_descriptor
      rw [show (60 : Nat) = 59 + 1 from rfl, m_descriptor_4, if_neg (by decide), if_neg (nI_pos (by omega)), rk9 r hr, Option.bind_some, if_neg (by decide)]
  · have k1 := sim_dn (mk := mk) (td := td) hD hd0 h3 s (l1 := nI k0) (dd_cn d0) 60 0 (Nat.le_refl _) (by omega) (by omega)
    refine k1.congr (fun x => ?_) (fun r _ => ?_)
    · show ga_dfin d0 (ga_dch cd d0 (dd_cn d0) x) = _
      exact gd_eq h3 _ _
    · show m_descriptor (nI k0) r = _
      rw [ex]; rfl
